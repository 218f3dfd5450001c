def shD (F p i n : Nat) (τ τ' : mS) : Prop := sB [F] [] τ τ' ∧ ∀ j, τ'.1 F j = if 30 * p + i ≤ j ∧ j < 30 * p + n then τ.1 F (j + 1) else τ.1 F j
theorem dv5 : ∀ j, j < 150 → dv (nI j) 5 = some (nI (j / 5)) := by decide +kernel
def P_tk (T : qqT) (G : qqG) (σ : mS) (T' : qqT) (G' : qqG) (σ' : mS) : Prop := G' = G ∧ ∃ b e p i σ2 σ6 tc, inH T' b e p i ∧ T = Tis T' b e p i ∧ sB xtL [] (sf σ 81 0) σ2 ∧ σ2.1 55 = σ.1 55 ∧ σ2.1 4 = σ.1 4 ∧ RT T' σ2 ∧ tcO T' (TH T e) tc ∧ f_markPlace (qqO ((Tls T' b p)[i]?)) (qqO (Pp9 b p)) tc σ2 = some σ6 ∧ f_leave σ6 = some σ'
section TK1
variable {T T' T1 : qqT} {G : qqG} {L : qqL} {A A' : kA} {ex ex' : Nat → Nat → Prop} {K K' K1 : kS} {S S' S1 : cS} {σ σ' σ2 : mS} {v v' e p i x k nw9 : Nat}
theorem r_lv27 (M : Int32) : ∀ d m i τ, i + d = 150 → d < m → ∃ τ', f_leave_27 m M (nI i) τ = some τ' ∧ sB [55] [] τ τ' ∧ ∀ j, τ'.1 55 j = if i ≤ j ∧ j < 150 ∧ bt M (j / 5) = false then -1 else τ.1 55 j := by
  intro d
  induction d with
  | zero =>
    intro m i τ hi hm
    obtain ⟨m, rfl⟩ : ∃ m', m = m' + 1 := ⟨m - 1, by omega⟩
    have hi : i = 150 := by omega
    subst hi
    refine ⟨τ, ?_, sB.rf _, fun j => (if_neg (by omega)).symm⟩
    rw [f_leave_27, if_pos (by decide)]
  | succ d ih =>
    intro m i τ hi hm
    obtain ⟨m, rfl⟩ : ∃ m', m = m' + 1 := ⟨m - 1, by omega⟩
    obtain ⟨τ', e1, sb, c1⟩ := ih m (i + 1) (up τ 55 i (if bt M (i / 5) = true then τ.1 55 i else -1)) (by omega) (by omega)
    refine ⟨τ', ?_, ((sB.rf _).up (by simp)).tr sb, fun j => ?_⟩
    · rw [f_leave_27, if_neg (show ¬ (150 : Int32) ≤ nI i from nI_ge (b := 150) (by omega) (by decide)), dv5 i (by omega), qqx, r_bit _ (by omega), qqx, b2_i0, rd_55 (by omega), qqx]
      unfold f_leave_60
      rw [wr_55 (by omega), qqx, wr_55 (by omega), qqx, nI_1]
      by_cases c : bt M (i / 5) = true
      · rw [if_pos c] at e1 ⊢; exact e1
      · rw [if_neg c] at e1 ⊢; exact e1
    · rw [c1 j]
      by_cases z : j = i
      · rw [z, up_ss, if_neg (by omega)]
        cases hb : bt M (i / 5) with
        | true => rw [if_pos rfl, if_neg (fun w => by cases w.2.2)]
        | false => rw [if_neg (by decide), if_pos ⟨Nat.le_refl _, by omega, rfl⟩]
      · rw [up_sn z]
        by_cases w : i + 1 ≤ j ∧ j < 150 ∧ bt M (j / 5) = false
        · rw [if_pos w, if_pos ⟨by omega, w.2⟩]
        · rw [if_neg w, if_neg (fun y => w ⟨by omega, y.2⟩)]
theorem r_leave (hw : Tw T) (hr : RT T σ) : ∃ σ', f_leave σ = some σ' ∧ sB [55] [48, 49] σ σ' ∧ (σ'.2 48 = σ.2 48 &&& qqM (TD T) (Tn T) ∧ σ'.2 49 = σ.2 49 &&& qqM (TD T) (Tn T)) ∧ ∀ e p, e < 30 → p < 5 → σ'.1 55 (5 * e + p) = if (decide (e < Tn T) && TD T e) = true then σ.1 55 (5 * e + p) else -1 := by
  have h30 := hw.n30
  obtain ⟨τ', e1, sb, c1⟩ := r_lv27 (qqM (TD T) (Tn T)) 150 4000 0 (sf (sf σ 48 (σ.2 48 &&& qqM (TD T) (Tn T))) 49 ((sf σ 48 (σ.2 48 &&& qqM (TD T) (Tn T))).2 49 &&& qqM (TD T) (Tn T))) (by omega) (by omega)
  refine ⟨τ', ?_, ((((sB.rf σ).sf (by simp)).sf (by simp))).tr (sb.wd (fun _ h => h) (by simp)), ⟨?_, ?_⟩, fun e p he hp => ?_⟩
  · unfold f_leave
    rw [r_docMask hw hr, qqx]; exact e1
  · rw [sb.2 48 (by simp), sf_o (by decide), sf_s]
  · rw [sb.2 49 (by simp), sf_s, sf_o (by decide)]
  · rw [c1, show (5 * e + p) / 5 = e by omega, qqM_bt _ _ (by omega) _ (by omega)]
    show (if 0 ≤ 5 * e + p ∧ 5 * e + p < 150 ∧ (decide (e < Tn T) && TD T e) = false then -1 else σ.1 55 (5 * e + p)) = _
    cases hb : (decide (e < Tn T) && TD T e) with
    | true => rw [if_neg (fun w => by cases w.2.2), if_pos rfl]
    | false => rw [if_pos ⟨by omega, by omega, rfl⟩, if_neg (by decide)]
def RMw (T : qqT) (P : Nat → Bool) (σ σ' : mS) : Prop := ∃ v, σ' = sf σ 49 v ∧ ∀ e, e < Tn T → TD T e = true → bt v e = (bt (σ.2 49) e || P e)
theorem RMw_of {P : Nat → Bool} {a b : mS} (h30 : Tn T ≤ 30) (h : RMk T P a b) : RMw T P a b := by
  obtain ⟨w, rfl, h2⟩ := h
  refine ⟨w, rfl, fun e he hd => ?_⟩
  rw [h2 e (by omega)]
  unfold dm
  rw [decide_eq_true he, hd, Bool.true_and, Bool.true_and]
theorem RMw_tr {P Q : Nat → Bool} {a b c : mS} (h : RMw T P a b) (k : RMw T Q b c) : RMw T (fun e => P e || Q e) a c := by
  obtain ⟨w, rfl, h2⟩ := h
  obtain ⟨w', rfl, k2⟩ := k
  refine ⟨w', sf_sf _ _ _ _, fun e he hd => ?_⟩
  rw [k2 e he hd, sf_s, h2 e he hd, Bool.or_assoc]
theorem RMw_cg {P Q : Nat → Bool} {a b : mS} (h : RMw T P a b) (k : ∀ e, P e = Q e) : RMw T Q a b := by
  obtain ⟨w, rfl, h2⟩ := h
  exact ⟨w, rfl, fun e he hd => by rw [h2 e he hd, k e]⟩
theorem RMw_sB {P : Nat → Bool} {a b : mS} (h : RMw T P a b) : sB [] [49] a b := by
  obtain ⟨w, rfl, -⟩ := h
  exact (sB.rf a).sf (by simp)
theorem RMw_rt {P : Nat → Bool} {a b : mS} (h : RMw T P a b) (hr : RT T a) : RT T b := hr.sB (L1 := []) (L2 := [49]) (RMw_sB h) (by simp) (by decide)
theorem r_mkP39 (hw : Tw T) (hr : RT T σ) {p t : Option Nat} {tc : Int32} (hp : ∀ q, p = some q → q < Tn T) (htc : tcO T t tc) (o h : Bool) : ∃ σ', f_markPlace_39 (qqO p) tc (nI (fl2 o h)) σ = some σ' ∧ RMw T (fun e => TMh T p t e || h) σ σ' := by
  unfold f_markPlace_39
  obtain ⟨σ1, e1, b1⟩ := r_markHosts hw hr hp htc
  rw [e1, qqx]
  cases h with
  | false =>
    have : nI (fl2 o false) ≤ (1 : Int32) := by cases o <;> decide
    rw [if_pos this]
    exact ⟨σ1, rfl, RMw_cg (RMw_of hw.n30 b1) (fun e => by simp)⟩
  | true =>
    have : ¬ nI (fl2 o true) ≤ (1 : Int32) := by cases o <;> decide
    rw [if_neg this, r_markAllE hw (b1.rt hr), qqx]
    have h30 := hw.n30
    refine ⟨_, rfl, RMw_tr (RMw_of h30 b1) ⟨_, rfl, fun e he hd => ?_⟩⟩
    rw [qqM_bt _ _ (by omega) _ (by omega), decide_eq_true he, hd, Bool.or_true]; rfl
theorem r_mkP9 (hw : Tw T) {p t : Option Nat} {tc : Int32} (hp : ∀ q, p = some q → q < Tn T) (htc : tcO T t tc) (h : Bool) : ∀ d m (x : Nat) (σ : mS), RT T σ → x < Tn T → Tix T x + d = (Tsb T x).length → d + 1 < m → ∃ σ', f_markPlace_9 m (qqO p) tc (nI (fl2 true h)) (nI x) σ = some σ' ∧ RMw T (fun e => TMs T (some x) e || (TMh T p t e || h)) σ σ' := by
  have h30 := hw.n30
  intro d
  induction d with
  | zero => intro m x σ hr hx hd hmm; have := Tix_lt hw x; omega
  | succ d ih =>
    intro m x σ hr hx hd hmm
    obtain ⟨m, rfl⟩ : ∃ m', m = m' + 1 := ⟨m - 1, by omega⟩
    have hrm : rm (nI (fl2 true h)) 2 = some 1 := by cases h <;> decide
    obtain ⟨σ1, e1, b1⟩ := r_markWith hw hr hx
    rw [f_markPlace_9, if_neg (nI_pos (by omega)), hrm, qqx, if_pos rfl, e1, qqx, r_sibling hw (b1.rt hr) hx, qqx]
    have hany := fun e => Tsb_any hw (x := x) (fun y => decide (e = y) || TB T y e)
    cases hz : Tnx T x with
    | none =>
      obtain ⟨m, rfl⟩ : ∃ m', m = m' + 1 := ⟨m - 1, by omega⟩
      rw [f_markPlace_9, if_pos (show qqO none < 0 by decide)]
      obtain ⟨σ2, e2, b2⟩ := r_mkP39 hw (b1.rt hr) hp htc true h
      refine ⟨σ2, e2, RMw_cg (RMw_tr (RMw_of h30 b1) b2) (fun e => ?_)⟩
      have := hany e
      rw [hz] at this
      unfold TMs
      simp only [this, Bool.or_false]
    | some z =>
      obtain ⟨z1, z2, z3, z4, z5⟩ := Tnx_some hw hz
      obtain ⟨σ2, e2, b2⟩ := ih m z σ1 (b1.rt hr) (Tnx_lt hw hx hz) (by rw [z4]; omega) (by omega)
      refine ⟨σ2, e2, RMw_cg (RMw_tr (RMw_of h30 b1) b2) (fun e => ?_)⟩
      have := hany e
      rw [hz] at this
      unfold TMs
      simp only [this, Bool.or_assoc]
theorem r_mkPl (hw : Tw T) (hr : RT T σ) {next p t : Option Nat} {tc : Int32} {o h : Bool} (hf : f_flags σ = some (nI (fl2 o h))) (hn : ∀ q, next = some q → q < Tn T) (hp : ∀ q, p = some q → q < Tn T) (htc : tcO T t tc) : ∃ σ', f_markPlace (qqO next) (qqO p) tc σ = some σ' ∧ RMw T (TMm T o h next p t) σ σ' := by
  have h30 := hw.n30
  unfold f_markPlace
  rw [hf, qqx]
  cases next with
  | none =>
    rw [show (4000 : Nat) = 3999 + 1 from rfl, f_markPlace_9, if_pos (show qqO none < 0 by decide)]
    obtain ⟨σ2, e2, b2⟩ := r_mkP39 hw hr hp htc o h
    exact ⟨σ2, e2, RMw_cg b2 (fun e => by unfold TMm TMs; simp)⟩
  | some x =>
    have hx := hn x rfl
    cases o with
    | false =>
      have hrm : rm (nI (fl2 false h)) 2 = some 0 := by cases h <;> decide
      rw [show (4000 : Nat) = 3999 + 1 from rfl, f_markPlace_9, if_neg (show ¬ qqO (some x) < 0 from nI_pos (by omega)), hrm, qqx, if_neg (by decide)]
      obtain ⟨σ2, e2, b2⟩ := r_mkP39 hw hr hp htc false h
      exact ⟨σ2, e2, RMw_cg b2 (fun e => by unfold TMm; simp)⟩
    | true =>
      obtain ⟨σ2, e2, b2⟩ := r_mkP9 hw hp htc h ((Tsb T x).length - Tix T x) 4000 x σ hr hx (by have := Tix_lt hw x; omega) (by have := Tsb_len hw hx; omega)
      exact ⟨σ2, e2, RMw_cg b2 (fun e => by unfold TMm; simp)⟩
theorem tk_both (hw1 : Tw T1) (hw : Tw T) (j : J0 T1 G L ex K σ v) (hn : Tn T = Tn T1) (hsh : Ts T = Ts T1) (hD : ∀ x, x < Tn T → TD T x = true → TD T1 x = true) (de : TD T e = false) (he : e < Tn T) (hA1 : KA A ex K1 S1) (t1 : KT T ex K1) (fr : kB F3 lkR K K1) (sb2 : sB xtL [] σ σ2) (s4 : σ2.1 4 = σ.1 4) (s55 : σ2.1 55 = σ.1 55) (rt2 : RT T σ2) {nx pp tt : Option Nat} {tc : Int32} (hnx : ∀ y, nx = some y → y < Tn T) (hpp : ∀ y, pp = some y → y < Tn T) (htt : ∀ y, tt = some y → y < Tn T) (htc : tcO T tt tc) (hv : v + 1 < 2 ^ 31) : ∃ S2 S3 K3 σ6 σ7, f_X10_layOut (A 50 0) S1 = some S2 ∧ rc S2 (some (A 49 0)) 11 = some (A 49 0) ∧ f_X11_markMove (A 49 0) (some (A 0 e)) (el A nx) (el A pp) (el A tt) S2 = some S3 ∧ f_markPlace (qqO nx) (qqO pp) tc σ2 = some σ6 ∧ f_leave σ6 = some σ7 ∧ KA A ex K3 S3 ∧ J0 T G L ex K3 σ7 (v + 1) ∧ kB xtP xtR K K3 ∧ sB xtL [48, 49] σ σ7 := by
  have h30 := hw.n30
  have q := j.1.1
  have b1 : kB xsP xsR K K1 := fr.wd (fun _ _ _ z => z.elim) (fun k i j z => z)
  obtain ⟨S2, K2, e2, h2, q2, b2', v2, ls2, m2, f2, -⟩ := c_relay hw hA1 t1 q.2.1 q.2.2.2 hn b1 j.2.2.2.2.2.1.1.2.2.2.2.1.1
  have ft := j.2.1.2.2.2.2
  obtain ⟨o9, ho9, hoe⟩ := ft.2.2.1
  have k11 : K2.1 58 0 11 = b2 o9 := by rw [b2'.1 _ _ _ (by unfold xtP; omega)]; exact ho9
  have k12 : K2.1 58 0 12 = b2 (bt (gAl G σ) 15) := by rw [b2'.1 _ _ _ (by unfold xtP; omega)]; exact ft.2.2.2
  obtain ⟨S3, K3, e3, h3, c3⟩ := c_markMove hw h2 q2 (e0 := e) (next := nx) (p := pp) (t := tt) he hnx hpp htt k11 k12
  have cm : CMk T (TMm T (bt (gAl G σ) 14) (bt (gAl G σ) 15) nx pp tt) K2 K3 := c3.cg (fun x hx hd => by
    have xe : decide (x = e) = false := decide_eq_false (fun z => by rw [z, de] at hd; cases hd)
    have tb : TB T e x = false := by
      cases hb : TB T e x with
      | false => rfl
      | true => rw [TB_D hw x hx hb, de] at hd; cases hd
    show ((decide (x = e) || TB T e x) || TMm T o9 _ nx pp tt x) = _
    rw [xe, tb, Bool.false_or, Bool.false_or]
    unfold TMm
    cases hh : bt (gAl G σ) 15 with
    | true => simp
    | false => rw [hoe hh])
  have fl := r_flg j (sb2.wd (fun _ h => h) (by simp))
  obtain ⟨y49, rfl, hy49⟩ := cm
  obtain ⟨σ6, r6, rm6⟩ := r_mkPl hw rt2 (next := nx) (p := pp) (t := tt) (tc := tc) fl hnx hpp htc
  obtain ⟨σ7, r7, sb7, ⟨l48, l49⟩, l55⟩ := r_leave hw (RMw_rt rm6 rt2)
  have sb6 := RMw_sB rm6
  have kb3 : kB MI F3 K2 (kwI K2 49 0 10 y49) := (kB.rf K2).I ⟨rfl, rfl, rfl⟩
  have c3' : CMk T (TMm T (bt (gAl G σ) 14) (bt (gAl G σ) 15) nx pp tt) K2 (kwI K2 49 0 10 y49) := ⟨y49, rfl, hy49⟩
  have b13 : kB xtP xtR K (kwI K2 49 0 10 y49) := b2'.tr (kb3.wd (fun k i j z => by unfold MI at z; unfold xtP; omega) (fun _ _ _ z => z.elim))
  have sb3 : sB xtL [48, 49] σ σ7 := ((sb2.wd (fun _ h => h) (by simp)).tr (sb6.wd (by simp) (by simp))).tr (sb7.wd (by decide) (fun _ h => h))
  have oM : ∀ k i j, ¬ MI k i j → (kwI K2 49 0 10 y49).1 k i j = K2.1 k i j := kb3.1
  have o67 : ∀ f, f ≠ 55 → σ7.1 f = σ2.1 f := fun f hf => (sb7.1 f (by simp [hf])).trans (sb6.1 f (by simp))
  have z48 : σ6.2 48 = σ.2 48 := (sb6.2 48 (by decide)).trans (sb2.2 48 (by simp))
  refine ⟨S2, S3, _, σ6, σ7, e2, q2.2.1.r11 h2, e3, r6, r7, h3, J0.tr hw1 hw j hn (fun x hx => by rw [hsh]; exact hx) b13 (c3'.kq q2) (fun y hy => ?_) hv (by rw [oM _ _ _ (by unfold MI; omega)]; exact v2) (fun y hy => ?_) sb3 ?_ (fun y h1 h2 => ⟨by rw [hsh]; exact (j.2.2.2.2.2.2.2.2.1 y h1 h2).1, by rw [o67 4 (by decide), s4]; exact (j.2.2.2.2.2.2.2.2.1 y h1 h2).2.2.2.2.1⟩) (fun y hy => ?_) (fun y p hy hp => ?_) ⟨fun y hy hb => ?_, fun y hy hd => ?_⟩, b13, sb3⟩
  · obtain ⟨k1, k2, k3, k4, k5, k6⟩ := j.1.2.2.1 y (by omega)
    have o : ∀ d, K1.1 0 y d = K.1 0 y d := fun d => fr.1 _ _ _ (fun z => z)
    rw [oM 0 y 1 (by unfold MI; omega), oM 0 y 2 (by unfold MI; omega), oM 0 y 3 (by unfold MI; omega), oM 0 y 4 (by unfold MI; omega), oM 0 y 5 (by unfold MI; omega), oM 0 y 6 (by unfold MI; omega), f2 1 (by decide) y, f2 2 (by decide) y, f2 3 (by decide) y, f2 4 (by decide) y, f2 5 (by decide) y, f2 6 (by decide) y, o, o, o, o, o, o, o67 0 (by decide), o67 1 (by decide), o67 2 (by decide), o67 3 (by decide), o67 4 (by decide), o67 5 (by decide), sb2.1 0 (by decide), sb2.1 1 (by decide), sb2.1 2 (by decide), sb2.1 3 (by decide), s4, sb2.1 5 (by decide)]
    exact ⟨k1, k2, k3, k4, k5, k6⟩
  · have := ls2 y hy
    unfold LSk at this ⊢
    rw [oM 6 y 1 (by unfold MI; omega), oM 6 y 4 (by unfold MI; omega)]
    exact ⟨fun h => ⟨(this.1 h).1, (this.1 h).2.1, fun p => by rw [oM 10 y p (by unfold MI; omega)]; exact (this.1 h).2.2 p⟩, fun h => ⟨(this.2 h).1, (this.2 h).2.1, fun p hp => by rw [oM 10 y p (by unfold MI; omega)]; exact (this.2 h).2.2 p hp⟩⟩
  · exact (RMw_rt rm6 rt2).cg (fun f hf => sb7.1 f (by revert f; decide)) (sb7.2 13 (by decide))
  · rw [l48, b_and, qqM_bt _ _ (by omega) _ hy, z48, hn]
  · rw [l55 y p hy hp, sb6.1 55 (by simp), s55, hn]
  · rw [l49, b_and, Bool.and_eq_true, qqM_bt _ _ (by omega) _ hy, Bool.and_eq_true] at hb
    exact ⟨of_decide_eq_true hb.2.1, hb.2.2⟩
  · have hy' : y < Tn T := by omega
    obtain ⟨y6, e6, hy6⟩ := rm6
    have dmy : dm T (TMm T (bt (gAl G σ) 14) (bt (gAl G σ) 15) nx pp tt) y = TMm T (bt (gAl G σ) 14) (bt (gAl G σ) 15) nx pp tt y := by
      unfold dm
      rw [decide_eq_true hy', hd, Bool.true_and, Bool.true_and]
    rw [kwI_s, hy49 y (by omega), dmy, l49, b_and, qqM_bt _ _ (by omega) _ (by omega), decide_eq_true hy', hd, m2, e6, sf_s, hy6 y hy' hd, sb2.2 49 (by simp), j.2.2.2.2.1.2.1 y hy (hD y hy' hd), Bool.true_and, Bool.and_true]
theorem r_td0 (hp : p < 30) (x1 x3 x4 x5 : Int32) {n : Nat} (hn : n < 30) : ∀ d m k τ, k + d = n → d < m → τ.1 10 p = nI n → ∃ τ', f_take_91 m x1 (nI p) x3 x4 x5 (nI k) τ = f_take_194 x1 (nI p) x3 x4 x5 τ' ∧ shD 9 p k n τ τ' := by
  intro d
  induction d with
  | zero =>
    intro m k τ hk hm hc
    obtain ⟨m, rfl⟩ : ∃ m', m = m' + 1 := ⟨m - 1, by omega⟩
    have hk : k = n := by omega
    subst hk
    refine ⟨τ, ?_, sB.rf _, fun j => (if_neg (by omega)).symm⟩
    rw [f_take_91, rd_10 hp, qqx, hc, if_pos (Int32.le_refl _)]
  | succ d ih =>
    intro m k τ hk hm hc
    obtain ⟨m, rfl⟩ : ∃ m', m = m' + 1 := ⟨m - 1, by omega⟩
    obtain ⟨τ', e1, sb, c1⟩ := ih m (k + 1) (up τ 9 (30 * p + k) (τ.1 9 (30 * p + k + 1))) (by omega) (by omega) (by rw [up_o (by decide)]; exact hc)
    refine ⟨τ', ?_, ((sB.rf _).up (by simp)).tr sb, fun j => ?_⟩
    · rw [f_take_91, rd_10 hp, qqx, hc, if_neg (nI_ge (by omega) (by omega)), show (30 : Int32) = nI 30 from rfl, pk_mul, nI_add, nI_1, rd_9 (by omega), qqx, wr_9 (by omega), qqx, nI_1]
      exact e1
    · rw [c1 j]
      by_cases c : 30 * p + (k + 1) ≤ j ∧ j < 30 * p + n
      · rw [if_pos c, if_pos (by omega), up_sn (by omega)]
      · rw [if_neg c]
        by_cases d : j = 30 * p + k
        · rw [d, up_ss, if_pos (by omega)]
        · rw [up_sn d, if_neg (by omega)]
theorem rt_dl0 (hw : Tw T) (h : inH T false e p i) (rt : RT (Tis T false e p i) σ) {τ0 τ : mS} (h0 : τ0 = up σ 10 p (nI (Tc T p).length)) (s : shD 9 p i (Tc T p).length τ0 τ) : RT T (up (up τ 6 e (-1)) 7 e (-1)) := by
  have hw' := Tis_w hw h
  have h30 := hw.n30
  obtain ⟨⟨he, hp, he0⟩, ⟨hh1, hh2⟩, -, -, hi⟩ := id h
  have el' : Tls T false p = Tc T p := if_neg (by decide)
  rw [el'] at hi
  obtain ⟨s1, s2⟩ := s
  obtain ⟨a13, a6, a7, a8, a10, a12, a9, a11, a0, a4⟩ := rt
  have t0 : ∀ f, f ≠ 10 → τ0.1 f = σ.1 f := fun f hf => by rw [h0, up_o hf]
  have o : ∀ f, f ≠ 9 → f ≠ 10 → f ≠ 6 → f ≠ 7 → (up (up τ 6 e (-1)) 7 e (-1)).1 f = σ.1 f := fun f h1 h2 h3 h4 => by rw [up_o h4, up_o h3, s1.1 f (by simp [h1]), t0 f h2]
  have o6 : ∀ x, x < 30 → (up (up τ 6 e (-1)) 7 e (-1)).1 6 x = qqO (Tp T x) := fun x hx => by
    rw [up_o (by decide), up_s]
    by_cases c : x = e
    · rw [if_pos c, c, hh1]; rfl
    · rw [if_neg c, s1.1 6 (by decide), t0 6 (by decide), a6 x hx, Tis_p, if_neg (fun z => c z.1)]
  have o7 : ∀ x, x < 30 → (up (up τ 6 e (-1)) 7 e (-1)).1 7 x = qqO (Th T x) := fun x hx => by
    rw [up_s]
    by_cases c : x = e
    · rw [if_pos c, c, hh2]; rfl
    · rw [if_neg c, up_o (by decide), s1.1 7 (by decide), t0 7 (by decide), a7 x hx, Tis_h, if_neg (fun z => c z.1)]
  have oC : ∀ x, x < 30 → (up (up τ 6 e (-1)) 7 e (-1)).1 10 x = nI (Tc T x).length := fun x hx => by
    rw [up_o (by decide), up_o (by decide), s1.1 10 (by decide), h0, up_s]
    by_cases c : x = p
    · rw [if_pos c, c]
    · rw [if_neg c, a10 x hx, Tis_c, if_neg (fun z => c z.1)]
  have oF : ∀ q k x, (Tc T q)[k]? = some x → (up (up τ 6 e (-1)) 7 e (-1)).1 9 (30 * q + k) = nI x := fun q k x hx => by
    have kl : k < (Tc T q).length := (List.getElem?_eq_some_iff.mp hx).1
    have k30 := hw.clen q
    have p30 := hw.clen p
    rw [up_o (by decide), up_o (by decide), s2]
    by_cases c : q = p
    · subst c
      have g := fun j => ins_get e i (Tc T q) j hi
      have e1 : Tc (Tis T false e q i) q = ins e i (Tc T q) := by rw [Tis_c, if_pos ⟨rfl, rfl⟩]
      by_cases d : k < i
      · rw [if_neg (by omega), t0 9 (by decide)]
        exact a9 q k x (by rw [e1, g, if_pos d]; exact hx)
      · rw [if_pos (by omega), t0 9 (by decide), Nat.add_assoc]
        exact a9 q (k + 1) x (by rw [e1, g, if_neg (by omega), if_neg (by omega)]; exact hx)
    · rw [if_neg (by omega), t0 9 (by decide)]
      exact a9 q k x (by rw [Tis_c, if_neg (fun z => c z.1)]; exact hx)
  refine ⟨?_, o6, o7, fun x hx => by rw [o 8 (by decide) (by decide) (by decide) (by decide)]; exact a8 x hx, oC, fun x hx => by rw [o 12 (by decide) (by decide) (by decide) (by decide), a12 x hx, Tis_t, if_neg (fun z => by cases z.2)], oF, fun q k x hx => by rw [o 11 (by decide) (by decide) (by decide) (by decide)]; exact a11 q k x (by rw [Tis_t, if_neg (fun z => by cases z.2)]; exact hx), fun x hx => by rw [o 0 (by decide) (by decide) (by decide) (by decide)]; exact a0 x hx, fun x hx => by rw [o 4 (by decide) (by decide) (by decide) (by decide)]; exact a4 x hx⟩
  rw [up_2, up_2, s1.2 13 (by simp), h0]; exact a13
theorem take0_core (hk : k < 60000) (hw : Tw T) (h : inH T false e p i) (w : JW k (Tis T false e p i) G L A ex K v nw9 S σ) : sJR [2, 1] lvN (JP (pf (Tis T false e p i) G σ (P_tk (Tis T false e p i) G σ)) (k + 1)) (f_X11_take_58 (A 49 0) (some (A 0 e)) (some (A 0 p)) (nI p) 0 S) (f_take_30 (nI e) 0 σ) := by
  obtain ⟨⟨hw', hA, hin⟩, h49, ⟨hv, hn, h54⟩, j⟩ := id w
  have h30 := hw.n30
  have q := j.1.1
  have rt := j.1.2.2.2
  have hno := Tls_no hw h
  obtain ⟨⟨he, hp, he0⟩, ⟨hh1, hh2⟩, hta, hts, hi⟩ := id h
  have el' : Tls T false p = Tc T p := if_neg (by decide)
  obtain ⟨⟨n1, n2⟩, -⟩ := Tis_nx hw h
  obtain ⟨sb1, -, -⟩ := Tis_sb hw h
  rw [el'] at hi hno n1 n2 sb1
  have tlen : (Tc (Tis T false e p i) p).length = (Tc T p).length + 1 := by rw [Tis_c, if_pos ⟨rfl, rfl⟩, ins_len]
  have l30 : (Tc T p).length < 30 := by
    have := hw'.clen p
    rw [tlen] at this
    have h9 : (Tc T p).length + 1 ≤ Tn T := this
    omega
  have j0 := j.scR (scR_sf σ 0)
  have x50 := q.1.2.1
  have x0 : ∀ y, y < Tn T → ex 0 y := fun y hy => q.1.E hy (by decide)
  have ml : ∀ y, y ∈ Tc T p → y < Tn T ∧ y ≠ e := fun y hy => ⟨(hw.clt hy).1, fun z => hno (by rw [← z]; exact hy)⟩
  have tp : Tp (Tis T false e p i) e = Pp9 false p := (by rw [Tis_p, if_pos ⟨rfl, rfl⟩]; rfl)
  have th : Th (Tis T false e p i) e = Ph9 false p := (by rw [Tis_h, if_neg (fun z => by cases z.2), hh2]; rfl)
  have ix : Tix (Tis T false e p i) e = i := Tix_at hw' (e := e) (by rw [sb1 e (Or.inl rfl), ins_get _ _ _ _ hi, if_neg (by omega), if_pos rfl])
  obtain ⟨y1, y2, y3, y4, y5, y6, y7, y8, y9, y10, y11, y12, y13, y14⟩ := q.1.1 e he
  obtain ⟨S1, K1, e1, hA1, b1, f8, f9, f12, f13, f10, f11⟩ := c_remove (b := false) (p := p) (e := e) (pv := pvI (Tc T p) i) (nx := (Tc T p)[i]?) hA x50 (x0 e he) (x0 p hp) (fun y hy => by
    have : y ∈ Tc T p := by
      unfold pvI at hy
      by_cases c : i = 0
      · rw [if_pos c] at hy; cases hy
      · rw [if_neg c] at hy; exact List.mem_of_getElem? hy
    exact ⟨x0 y (ml y this).1, (ml y this).2⟩) (fun y hy => ⟨x0 y (ml y (List.mem_of_getElem? hy)).1, (ml y (List.mem_of_getElem? hy)).2⟩) (by rw [y6, tp]) (by rw [y7, th]) (by rw [y11, n2]) (by rw [y10, n1])
  have t1 : KT T ex K1 := KT_del hw h q.1 b1 f8 f9 (by rw [el']; exact f12) (by rw [el']; exact f13) (by rw [el']; exact f10) (by rw [el']; exact f11)
  obtain ⟨τ, r1, sh⟩ := r_td0 (p := p) (by omega) (nI e) (-1) (Tco (Tis T false e p i) e) (qqO (Tc T p)[i]?) l30 ((Tc T p).length - i) 4000 i (up (sf σ 81 0) 10 p (nI (Tc T p).length)) (by omega) (by omega) (up_ss _ _ _ _)
  have rt2 := rt_dl0 (σ := sf σ 81 0) hw h rt rfl sh
  have sbT : sB xtL [] (sf σ 81 0) (up (up τ 6 e (-1)) 7 e (-1)) := ((((sB.rf _).up (show 10 ∈ xtL by decide) : sB xtL [] (sf σ 81 0) (up (sf σ 81 0) 10 p (nI (Tc T p).length))).tr (sh.1.wd (fun f hf => by revert f; decide) (fun _ h => h))).up (by decide)).up (by decide)
  have s55 : (up (up τ 6 e (-1)) 7 e (-1)).1 55 = (sf σ 81 0).1 55 := by rw [up_o (by decide), up_o (by decide), sh.1.1 55 (by decide), up_o (by decide)]
  have s4 : (up (up τ 6 e (-1)) 7 e (-1)).1 4 = (sf σ 81 0).1 4 := by rw [up_o (by decide), up_o (by decide), sh.1.1 4 (by decide), up_o (by decide)]
  obtain ⟨de, dd1, -⟩ := Tis_D hw h
  have tcO' : tcO T (TH (Tis T false e p i) e) (Tco (Tis T false e p i) e) := tcO_of hw'
  obtain ⟨S2, S3, K3, σ6, σ7, m1, m2, m3, m4, m5, m6, m7, m8, m9⟩ := tk_both hw' hw j0 rfl rfl dd1 de he hA1 t1 b1 sbT s4 s55 rt2 (nx := (Tc T p)[i]?) (pp := Pp9 false p) (tt := TH (Tis T false e p i) e) (fun y hy => (ml y (List.mem_of_getElem? hy)).1) (fun y hy => by cases hy; exact hp) (fun y hy => (TH_lt hw' hy).1) tcO' (by omega)
  have runR : f_take_30 (nI e) 0 σ = some ((nI p), σ7) := by
    have c0 : (sf σ 81 0).1 10 p = nI ((Tc T p).length + 1) := by
      have := rt.2.2.2.2.1 p (by omega)
      rw [tlen] at this; exact this
    have z6 : rd (sf σ 81 0) 6 (nI e) = some (qqO (Pp9 false p)) := by rw [← tp]; exact rt.p (by omega)
    have z7 : rd (sf σ 81 0) 7 (nI e) = some (qqO (Ph9 false p)) := by rw [← th]; exact rt.h (by omega)
    have e9 : nI ((Tc T p).length + 1) - 1 = nI (Tc T p).length := by rw [show (1 : Int32) = nI 1 from rfl, pk_sub (by omega)]; rfl
    have zt : f_treeOf (nI e) (sf σ 81 0) = some (Tco (Tis T false e p i) e) := r_treeOf hw' j0.1.2.2.2 he
    have zs : f_sibling (nI e) (sf σ 81 0) = some (qqO (Tc T p)[i]?) := by rw [← n1]; exact r_sibling hw' j0.1.2.2.2 he
    have zp : f_placeOf (nI e) (sf σ 81 0) = some (nI i) := by rw [← ix]; exact r_placeOf hw' j0.1.2.2.2 he
    have m4' : f_markPlace (qqO (Tc T p)[i]?) (nI p) (Tco (Tis T false e p i) e) (up (up τ 6 e (-1)) 7 e (-1)) = some σ6 := m4
    have r1' : f_take_91 4000 (nI e) (nI p) (-1) (Tco (Tis T false e p i) e) (qqO (Tc T p)[i]?) (nI i) (up (sf σ 81 0) 10 p (nI (Tc T p).length)) = f_take_194 (nI e) (nI p) (-1) (Tco (Tis T false e p i) e) (qqO (Tc T p)[i]?) τ := r1
    unfold f_take_30
    rw [r_holds0, qqx, if_pos rfl]
    dsimp only
    rw [z6, qqx, z7, qqx, zt, qqx, zs, qqx, zp, qqx, if_neg (show ¬ qqO (Pp9 false p) < 0 from nI_pos (by omega)), show qqO (Pp9 false p) = nI p from rfl, show qqO (Ph9 false p) = -1 from rfl, rd_10 (by omega), qqx, c0, e9, wr_10 (by omega), qqx, r1']
    unfold f_take_194 f_take_233
    rw [wr_6 (by omega), qqx, wr_7 (by omega), qqx, m4', qqx, m5, qqx, if_neg (nI_pos (by omega))]
  unfold f_X11_take_58
  rw [c_refS0, qqx]
  show sJR _ _ _ ((gR S (some (A 0 e)) 3 12).bind _) _
  have g12 : gR S (some (A 0 e)) 3 12 = some (el A (Tc T p)[i]?) := by rw [q.1.g12 hA he, n1]
  have m3' : f_X11_markMove (A 49 0) (some (A 0 e)) (el A (Tc T p)[i]?) (some (A 0 p)) (el A (TH (Tis T false e p i) e)) S2 = some S3 := m3
  rw [g12, qqx, g15 q.1 hA q.2.2.1 he, qqx, q.2.1.trees hA, qqx, hA.Rc 50 10 x50 rfl, qqx, e1, m1, qqx, qqx, m2, qqx, m3', qqx, runR]
  have f81 : σ7.2 81 = 0 := (m9.2 81 (by decide)).trans rfl
  have f54 : σ7.2 54 = σ.2 54 := (m9.2 54 (by decide)).trans rfl
  exact sJR.r rfl f81 (fun n hn1 => ⟨T, G, L, A, ex, K3, v + 1, nw9, ⟨⟨hw, m6.mono hn1, hin.kp m8 (fun i j => by unfold xtP; omega)⟩, h49, ⟨by omega, hn, f54.trans h54⟩, m7⟩, Or.inr ⟨f81, rfl, false, e, p, i, _, σ6, _, h, rfl, sbT, s55, s4, rt2, tcO', (by rw [el']; exact m4), m5⟩⟩)
theorem r_td1 (hp : p < 30) (x1 x3 x4 x5 : Int32) {n : Nat} (hn : n < 30) : ∀ d m k τ, k + d = n → d < m → τ.1 12 p = nI n → ∃ τ', f_take_151 m x1 x3 (nI p) x4 x5 (nI k) τ = f_take_194 x1 x3 (nI p) x4 x5 τ' ∧ shD 11 p k n τ τ' := by
  intro d
  induction d with
  | zero =>
    intro m k τ hk hm hc
    obtain ⟨m, rfl⟩ : ∃ m', m = m' + 1 := ⟨m - 1, by omega⟩
    have hk : k = n := by omega
    subst hk
    refine ⟨τ, ?_, sB.rf _, fun j => (if_neg (by omega)).symm⟩
    rw [f_take_151, rd_12 hp, qqx, hc, if_pos (Int32.le_refl _)]
  | succ d ih =>
    intro m k τ hk hm hc
    obtain ⟨m, rfl⟩ : ∃ m', m = m' + 1 := ⟨m - 1, by omega⟩
    obtain ⟨τ', e1, sb, c1⟩ := ih m (k + 1) (up τ 11 (30 * p + k) (τ.1 11 (30 * p + k + 1))) (by omega) (by omega) (by rw [up_o (by decide)]; exact hc)
    refine ⟨τ', ?_, ((sB.rf _).up (by simp)).tr sb, fun j => ?_⟩
    · rw [f_take_151, rd_12 hp, qqx, hc, if_neg (nI_ge (by omega) (by omega)), show (30 : Int32) = nI 30 from rfl, pk_mul, nI_add, nI_1, rd_11 (by omega), qqx, wr_11 (by omega), qqx, nI_1]
      exact e1
    · rw [c1 j]
      by_cases c : 30 * p + (k + 1) ≤ j ∧ j < 30 * p + n
      · rw [if_pos c, if_pos (by omega), up_sn (by omega)]
      · rw [if_neg c]
        by_cases d : j = 30 * p + k
        · rw [d, up_ss, if_pos (by omega)]
        · rw [up_sn d, if_neg (by omega)]
theorem rt_dl1 (hw : Tw T) (h : inH T true e p i) (rt : RT (Tis T true e p i) σ) {τ0 τ : mS} (h0 : τ0 = up σ 12 p (nI (Tt T p).length)) (s : shD 11 p i (Tt T p).length τ0 τ) : RT T (up (up τ 6 e (-1)) 7 e (-1)) := by
  have hw' := Tis_w hw h
  have h30 := hw.n30
  obtain ⟨⟨he, hp, he0⟩, ⟨hh1, hh2⟩, -, -, hi⟩ := id h
  have el' : Tls T true p = Tt T p := if_pos rfl
  rw [el'] at hi
  obtain ⟨s1, s2⟩ := s
  obtain ⟨a13, a6, a7, a8, a10, a12, a9, a11, a0, a4⟩ := rt
  have t0 : ∀ f, f ≠ 12 → τ0.1 f = σ.1 f := fun f hf => by rw [h0, up_o hf]
  have o : ∀ f, f ≠ 11 → f ≠ 12 → f ≠ 6 → f ≠ 7 → (up (up τ 6 e (-1)) 7 e (-1)).1 f = σ.1 f := fun f h1 h2 h3 h4 => by rw [up_o h4, up_o h3, s1.1 f (by simp [h1]), t0 f h2]
  have o6 : ∀ x, x < 30 → (up (up τ 6 e (-1)) 7 e (-1)).1 6 x = qqO (Tp T x) := fun x hx => by
    rw [up_o (by decide), up_s]
    by_cases c : x = e
    · rw [if_pos c, c, hh1]; rfl
    · rw [if_neg c, s1.1 6 (by decide), t0 6 (by decide), a6 x hx, Tis_p, if_neg (fun z => c z.1)]
  have o7 : ∀ x, x < 30 → (up (up τ 6 e (-1)) 7 e (-1)).1 7 x = qqO (Th T x) := fun x hx => by
    rw [up_s]
    by_cases c : x = e
    · rw [if_pos c, c, hh2]; rfl
    · rw [if_neg c, up_o (by decide), s1.1 7 (by decide), t0 7 (by decide), a7 x hx, Tis_h, if_neg (fun z => c z.1)]
  have oC : ∀ x, x < 30 → (up (up τ 6 e (-1)) 7 e (-1)).1 12 x = nI (Tt T x).length := fun x hx => by
    rw [up_o (by decide), up_o (by decide), s1.1 12 (by decide), h0, up_s]
    by_cases c : x = p
    · rw [if_pos c, c]
    · rw [if_neg c, a12 x hx, Tis_t, if_neg (fun z => c z.1)]
  have oF : ∀ q k x, (Tt T q)[k]? = some x → (up (up τ 6 e (-1)) 7 e (-1)).1 11 (30 * q + k) = nI x := fun q k x hx => by
    have kl : k < (Tt T q).length := (List.getElem?_eq_some_iff.mp hx).1
    have k30 := hw.tlen q
    have p30 := hw.tlen p
    rw [up_o (by decide), up_o (by decide), s2]
    by_cases c : q = p
    · subst c
      have g := fun j => ins_get e i (Tt T q) j hi
      have e1 : Tt (Tis T true e q i) q = ins e i (Tt T q) := by rw [Tis_t, if_pos ⟨rfl, rfl⟩]
      by_cases d : k < i
      · rw [if_neg (by omega), t0 11 (by decide)]
        exact a11 q k x (by rw [e1, g, if_pos d]; exact hx)
      · rw [if_pos (by omega), t0 11 (by decide), Nat.add_assoc]
        exact a11 q (k + 1) x (by rw [e1, g, if_neg (by omega), if_neg (by omega)]; exact hx)
    · rw [if_neg (by omega), t0 11 (by decide)]
      exact a11 q k x (by rw [Tis_t, if_neg (fun z => c z.1)]; exact hx)
  refine ⟨?_, o6, o7, fun x hx => by rw [o 8 (by decide) (by decide) (by decide) (by decide)]; exact a8 x hx, fun x hx => by rw [o 10 (by decide) (by decide) (by decide) (by decide), a10 x hx, Tis_c, if_neg (fun z => by cases z.2)], oC, fun q k x hx => by rw [o 9 (by decide) (by decide) (by decide) (by decide)]; exact a9 q k x (by rw [Tis_c, if_neg (fun z => by cases z.2)]; exact hx), oF, fun x hx => by rw [o 0 (by decide) (by decide) (by decide) (by decide)]; exact a0 x hx, fun x hx => by rw [o 4 (by decide) (by decide) (by decide) (by decide)]; exact a4 x hx⟩
  rw [up_2, up_2, s1.2 13 (by simp), h0]; exact a13
theorem take1_core (hk : k < 60000) (hw : Tw T) (h : inH T true e p i) (w : JW k (Tis T true e p i) G L A ex K v nw9 S σ) : sJR [2, 1] lvN (JP (pf (Tis T true e p i) G σ (P_tk (Tis T true e p i) G σ)) (k + 1)) (f_X11_take_58 (A 49 0) (some (A 0 e)) none (100 + nI p) 0 S) (f_take_30 (nI e) 0 σ) := by
  obtain ⟨⟨hw', hA, hin⟩, h49, ⟨hv, hn, h54⟩, j⟩ := id w
  have h30 := hw.n30
  have q := j.1.1
  have rt := j.1.2.2.2
  have hno := Tls_no hw h
  obtain ⟨⟨he, hp, he0⟩, ⟨hh1, hh2⟩, hta, hts, hi⟩ := id h
  have el' : Tls T true p = Tt T p := if_pos rfl
  obtain ⟨⟨n1, n2⟩, -⟩ := Tis_nx hw h
  obtain ⟨sb1, -, -⟩ := Tis_sb hw h
  rw [el'] at hi hno n1 n2 sb1
  have tlen : (Tt (Tis T true e p i) p).length = (Tt T p).length + 1 := by rw [Tis_t, if_pos ⟨rfl, rfl⟩, ins_len]
  have l30 : (Tt T p).length < 30 := by
    have := hw'.tlen p
    rw [tlen] at this
    have h9 : (Tt T p).length + 1 ≤ Tn T := this
    omega
  have j0 := j.scR (scR_sf σ 0)
  have x50 := q.1.2.1
  have x0 : ∀ y, y < Tn T → ex 0 y := fun y hy => q.1.E hy (by decide)
  have ml : ∀ y, y ∈ Tt T p → y < Tn T ∧ y ≠ e := fun y hy => ⟨(hw.tlt hy).1, fun z => hno (by rw [← z]; exact hy)⟩
  have tp : Tp (Tis T true e p i) e = Pp9 true p := (by rw [Tis_p, if_neg (fun z => by cases z.2), hh1]; rfl)
  have th : Th (Tis T true e p i) e = Ph9 true p := (by rw [Tis_h, if_pos ⟨rfl, rfl⟩]; rfl)
  have ix : Tix (Tis T true e p i) e = i := Tix_at hw' (e := e) (by rw [sb1 e (Or.inl rfl), ins_get _ _ _ _ hi, if_neg (by omega), if_pos rfl])
  obtain ⟨y1, y2, y3, y4, y5, y6, y7, y8, y9, y10, y11, y12, y13, y14⟩ := q.1.1 e he
  obtain ⟨S1, K1, e1, hA1, b1, f8, f9, f12, f13, f10, f11⟩ := c_remove (b := true) (p := p) (e := e) (pv := pvI (Tt T p) i) (nx := (Tt T p)[i]?) hA x50 (x0 e he) (x0 p hp) (fun y hy => by
    have : y ∈ Tt T p := by
      unfold pvI at hy
      by_cases c : i = 0
      · rw [if_pos c] at hy; cases hy
      · rw [if_neg c] at hy; exact List.mem_of_getElem? hy
    exact ⟨x0 y (ml y this).1, (ml y this).2⟩) (fun y hy => ⟨x0 y (ml y (List.mem_of_getElem? hy)).1, (ml y (List.mem_of_getElem? hy)).2⟩) (by rw [y6, tp]) (by rw [y7, th]) (by rw [y11, n2]) (by rw [y10, n1])
  have t1 : KT T ex K1 := KT_del hw h q.1 b1 f8 f9 (by rw [el']; exact f12) (by rw [el']; exact f13) (by rw [el']; exact f10) (by rw [el']; exact f11)
  obtain ⟨τ, r1, sh⟩ := r_td1 (p := p) (by omega) (nI e) (-1) (Tco (Tis T true e p i) e) (qqO (Tt T p)[i]?) l30 ((Tt T p).length - i) 4000 i (up (sf σ 81 0) 12 p (nI (Tt T p).length)) (by omega) (by omega) (up_ss _ _ _ _)
  have rt2 := rt_dl1 (σ := sf σ 81 0) hw h rt rfl sh
  have sbT : sB xtL [] (sf σ 81 0) (up (up τ 6 e (-1)) 7 e (-1)) := ((((sB.rf _).up (show 12 ∈ xtL by decide) : sB xtL [] (sf σ 81 0) (up (sf σ 81 0) 12 p (nI (Tt T p).length))).tr (sh.1.wd (fun f hf => by revert f; decide) (fun _ h => h))).up (by decide)).up (by decide)
  have s55 : (up (up τ 6 e (-1)) 7 e (-1)).1 55 = (sf σ 81 0).1 55 := by rw [up_o (by decide), up_o (by decide), sh.1.1 55 (by decide), up_o (by decide)]
  have s4 : (up (up τ 6 e (-1)) 7 e (-1)).1 4 = (sf σ 81 0).1 4 := by rw [up_o (by decide), up_o (by decide), sh.1.1 4 (by decide), up_o (by decide)]
  obtain ⟨de, dd1, -⟩ := Tis_D hw h
  have tcO' : tcO T (TH (Tis T true e p i) e) (Tco (Tis T true e p i) e) := tcO_of hw'
  obtain ⟨S2, S3, K3, σ6, σ7, m1, m2, m3, m4, m5, m6, m7, m8, m9⟩ := tk_both hw' hw j0 rfl rfl dd1 de he hA1 t1 b1 sbT s4 s55 rt2 (nx := (Tt T p)[i]?) (pp := Pp9 true p) (tt := TH (Tis T true e p i) e) (fun y hy => (ml y (List.mem_of_getElem? hy)).1) (fun y hy => by cases hy) (fun y hy => (TH_lt hw' hy).1) tcO' (by omega)
  have runR : f_take_30 (nI e) 0 σ = some ((100 + nI p), σ7) := by
    have c0 : (sf σ 81 0).1 12 p = nI ((Tt T p).length + 1) := by
      have := rt.2.2.2.2.2.1 p (by omega)
      rw [tlen] at this; exact this
    have z6 : rd (sf σ 81 0) 6 (nI e) = some (qqO (Pp9 true p)) := by rw [← tp]; exact rt.p (by omega)
    have z7 : rd (sf σ 81 0) 7 (nI e) = some (qqO (Ph9 true p)) := by rw [← th]; exact rt.h (by omega)
    have e9 : nI ((Tt T p).length + 1) - 1 = nI (Tt T p).length := by rw [show (1 : Int32) = nI 1 from rfl, pk_sub (by omega)]; rfl
    have zt : f_treeOf (nI e) (sf σ 81 0) = some (Tco (Tis T true e p i) e) := r_treeOf hw' j0.1.2.2.2 he
    have zs : f_sibling (nI e) (sf σ 81 0) = some (qqO (Tt T p)[i]?) := by rw [← n1]; exact r_sibling hw' j0.1.2.2.2 he
    have zp : f_placeOf (nI e) (sf σ 81 0) = some (nI i) := by rw [← ix]; exact r_placeOf hw' j0.1.2.2.2 he
    have m4' : f_markPlace (qqO (Tt T p)[i]?) (-1) (Tco (Tis T true e p i) e) (up (up τ 6 e (-1)) 7 e (-1)) = some σ6 := m4
    have r1' : f_take_151 4000 (nI e) (-1) (nI p) (Tco (Tis T true e p i) e) (qqO (Tt T p)[i]?) (nI i) (up (sf σ 81 0) 12 p (nI (Tt T p).length)) = f_take_194 (nI e) (-1) (nI p) (Tco (Tis T true e p i) e) (qqO (Tt T p)[i]?) τ := r1
    unfold f_take_30
    rw [r_holds0, qqx, if_pos rfl]
    dsimp only
    rw [z6, qqx, z7, qqx, zt, qqx, zs, qqx, zp, qqx, if_pos (show qqO (Pp9 true p) < 0 from (show (-1 : Int32) < 0 by decide)), show qqO (Pp9 true p) = -1 from rfl, show qqO (Ph9 true p) = nI p from rfl, rd_12 (by omega), qqx, c0, e9, wr_12 (by omega), qqx, r1']
    unfold f_take_194 f_take_233
    rw [wr_6 (by omega), qqx, wr_7 (by omega), qqx, m4', qqx, m5, qqx, if_pos (show (-1 : Int32) < 0 by decide)]
  unfold f_X11_take_58
  rw [c_refS0, qqx]
  show sJR _ _ _ ((gR S (some (A 0 e)) 3 12).bind _) _
  have g12 : gR S (some (A 0 e)) 3 12 = some (el A (Tt T p)[i]?) := by rw [q.1.g12 hA he, n1]
  have m3' : f_X11_markMove (A 49 0) (some (A 0 e)) (el A (Tt T p)[i]?) none (el A (TH (Tis T true e p i) e)) S2 = some S3 := m3
  rw [g12, qqx, g15 q.1 hA q.2.2.1 he, qqx, q.2.1.trees hA, qqx, hA.Rc 50 10 x50 rfl, qqx, e1, m1, qqx, qqx, m2, qqx, m3', qqx, runR]
  have f81 : σ7.2 81 = 0 := (m9.2 81 (by decide)).trans rfl
  have f54 : σ7.2 54 = σ.2 54 := (m9.2 54 (by decide)).trans rfl
  exact sJR.r rfl f81 (fun n hn1 => ⟨T, G, L, A, ex, K3, v + 1, nw9, ⟨⟨hw, m6.mono hn1, hin.kp m8 (fun i j => by unfold xtP; omega)⟩, h49, ⟨by omega, hn, f54.trans h54⟩, m7⟩, Or.inr ⟨f81, rfl, true, e, p, i, _, σ6, _, h, rfl, sbT, s55, s4, rt2, tcO', (by rw [el']; exact m4), m5⟩⟩)
theorem sq_take {T : qqT} {G : qqG} {L : qqL} {A : kA} {ex : Nat → Nat → Prop} {K : kS} {v nw9 k : Nat} {S : cS} {σ : mS} (hk : k < 60000) (w : JW k T G L A ex K v nw9 S σ) (a1 : Int32) : sJR [2, 1] lvN (JP (pf T G σ (P_tk T G σ)) (k + 1)) (f_X11_take 1 a1 S) (f_take a1 σ) := by
  obtain ⟨⟨hw, hA, hin⟩, h49, ⟨hv, hn, h54⟩, j⟩ := id w
  have h30 := hw.n30
  have q := j.1.1
  have rt := j.1.2.2.2
  refine at49 (P := fun x => sJR [2, 1] lvN (JP (pf T G σ (P_tk T G σ)) (k + 1)) (f_X11_take x a1 S) (f_take a1 σ)) h49 ?_
  unfold f_X11_take f_take
  have r1 : f_take_30 a1 1 σ = some (-1, sf σ 81 1) := by unfold f_take_30; rw [r_holds1, qqx]; rfl
  have r2 : f_take_25 a1 σ = some (-1, sf σ 81 2) := by unfold f_take_25 f_take_30; rw [r_holds2, qqx]; rfl
  rw [q.2.1.r11 hA, qqx, r_isElement rt hw, qqx, r1, r2]
  rcases ix_cases a1 (n := Tn T) (by omega) with ⟨e, he, rfl⟩ | hx
  · rw [c_elementAt hw q hA he, qqx, if_dt (nI_inn he (by omega))]
    show sJR _ _ _ ((gR S (some (A 0 e)) 3 8).bind _) _
    rw [q.1.g8 hA he, qqx]
    show sJR _ _ _ ((gR S (some (A 0 e)) 3 9).bind _) _
    rw [q.1.g9 hA he, qqx]
    have bad : Tup T e = none → sJR [2, 1] lvN (JP (pf T G σ (P_tk T G σ)) (k + 1)) (if el A (Tp T e) = none then (if el A (Th T e) = none then (f_X11_take_45 (A 49 0) (some (A 0 e)) (el A (Tp T e)) (-1) S) else ((gI S (el A (Th T e)) 3 0).bind (fun v6 => f_X11_take_45 (A 49 0) (some (A 0 e)) (el A (Tp T e)) (100 + v6) S))) else ((gI S (el A (Tp T e)) 3 0).bind (fun v7 => f_X11_take_45 (A 49 0) (some (A 0 e)) (el A (Tp T e)) v7 S))) (some (-1, sf σ 81 2)) := fun hu => by
      have tp : Tp T e = none := by
        cases hq : Tp T e with
        | none => rfl
        | some y => have := Tup_p hq; rw [hu] at this; cases this
      have th : Th T e = none := by
        cases hq : Th T e with
        | none => rfl
        | some y => have := Tup_h hw hq; rw [hu] at this; cases this
      rw [tp, th, if_pos (el_none A), if_pos (el_none A)]
      unfold f_X11_take_45 f_X11_take_58
      rw [if_pos rfl, c_refS1, qqx]
      exact sJR.l rfl (w.no 2)
    have z0 : ∀ y, y < Tn T → gI S (some (A 0 y)) 3 0 = some (nI y) := fun y hy => by rw [hA.I 0 3 (q.1.E hy (by decide)) rfl, (q.1.1 y hy).2.1]
    by_cases c0 : e = 0
    · rw [if_pos (show nI e = 0 by rw [c0]; rfl)]
      exact bad (by rw [c0]; exact Tup_none hw.p0 hw.h0)
    · rw [if_neg (show ¬ nI e = 0 from fun z => c0 ((nI_eqE (b := 0) (by omega) (by decide)).mp z)), r_loose hw rt he, qqx]
      unfold lsB
      rw [decide_eq_true c0, Bool.true_and]
      cases hu : Tup T e with
      | none =>
        rw [show (none : Option Nat).isNone = true from rfl, if_neg (show ¬ b2 true = 0 by decide)]
        exact bad hu
      | some p =>
        rw [show (some p).isNone = false from rfl, if_pos (show b2 false = 0 from rfl)]
        have hp := (hw.up hu).2
        have at9 : ∀ l : List Nat, Tsb T e = l → l[Tix T e]? = some e := fun l hl => by rw [← hl]; exact Tix_get hw e
        rcases Tup_cases hw hu with h1 | ⟨h1, h2⟩
        · have h2 := hw.pn h1
          have ah : atH T false e p (Tix T e) := ⟨he, hp, c0, fun _ => ⟨h1, h2⟩, (fun z => by cases z), at9 _ ((Tsb_p h1).trans (if_neg (by decide)).symm)⟩
          have w' : JW k (Tis (Tdl T false e p (Tix T e)) false e p (Tix T e)) G L A ex K v nw9 S σ := by rw [Tis_dl ah]; exact w
          have core := take0_core hk (Tdl_w hw ah) (Tdl_in hw ah) w'
          rw [Tis_dl ah] at core
          rw [h1, h2, el_some, if_neg (fun z => by cases z), z0 p hp, qqx]
          unfold f_X11_take_45
          rw [if_neg (nI_m1 (by omega))]
          exact core
        · have ah : atH T true e p (Tix T e) := ⟨he, hp, c0, (fun z => by cases z), fun _ => ⟨h1, h2⟩, at9 _ ((Tsb_h hw h2).trans (if_pos rfl).symm)⟩
          have w' : JW k (Tis (Tdl T true e p (Tix T e)) true e p (Tix T e)) G L A ex K v nw9 S σ := by rw [Tis_dl ah]; exact w
          have core := take1_core hk (Tdl_w hw ah) (Tdl_in hw ah) w'
          rw [Tis_dl ah] at core
          rw [h1, h2, if_pos (el_none A), el_some, if_neg (fun z => by cases z), z0 p hp, qqx]
          unfold f_X11_take_45
          rw [if_neg (show ¬ (100 : Int32) + nI p = -1 from fun z => nI_m1 (q := 100 + p) (by omega) (by rw [← nI_add]; exact z))]
          exact core
  · rw [c_elementN hw q hA hx, qqx, if_df hx]
    exact sJR.l rfl (w.no 1)
end TK1
