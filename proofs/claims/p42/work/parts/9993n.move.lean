section QN
variable {mm : Nat × Nat × Nat}
variable {T T' : qqT} {G G' : qqG} {σ σ' σ1 σ2 : mS} {hl dr dr' hl' b ord : Bool} {e k n x p i N s y : Nat} {h : Option Nat}
theorem ap_is (hw : Tw T) (h : inH T b x p i) (hc : RC T G σ1) (hs : ∀ s, s < Gs G → RSl σ1 s s) (hq : ∀ s, s < Gs G → σ1.1 25 s = sAl σ1 s) (h15 : ∀ r, r < Gr G → bt (σ1.1 25 (Gse G r)) 15 = false) (h14 : ∀ r, r < Gr G → bt (σ1.1 25 (Gse G r)) 14 = true → ord = true) (hf : ∀ f, f ∈ pFd → σ2.1 f = σ1.1 f) (h30 : σ2.1 30 = σ1.1 30) (hU : Uset (Tis T b x p i) ord x y) : (∀ r, r < Gr G → apB (Tis T b x p i) G (hS (Tis T b x p i) G σ2) y r = apB T G (hS T G σ1) y r) ∧ (∀ r, r < Gr G → apB T G (hS T G σ1) y r = true → Ldp (Tis T b x p i) G r = Ldp T G r) ∧ Ldp (Tis T b x p i) G (40 + y) = Ldp T G (40 + y) := by
  have hw' := Tis_w hw h
  have h40 := hc.r40
  have pr : pairU T (Tis T b x p i) σ1 σ2 ord (Uset (Tis T b x p i) ord x) := Tis_pair hw h hf
  have hy : y < Tn T := hU.1
  have bits : ∀ r, r < Gr G → bt (qMs (Tis T b x p i) σ2 (Gsh G (Gsf G r)) (Gse G r)) y = bt (qMs T σ1 (Gsh G (Gsf G r)) (Gse G r)) y := fun r hr => qMs_p pr hw.n30 hc.s30 hs hq _ (hc.se hr) (h15 r hr) (h14 r hr) y hU
  have host : ∀ r q, r < Gr G → Gsh G (Gsf G r) = some q → bt (qMs T σ1 (Gsh G (Gsf G r)) (Gse G r)) y = true → q < Tn T ∧ TA (Tis T b x p i) x q = false := fun r q hr hg hb => by
    rw [hg] at hb
    have hqn := (hc.hn (hc.f hr).2 hg).1
    refine ⟨hqn, host_out hw' hy hU.2.1 ?_⟩
    rcases bit_host hw hc.s30 hs (hc.se hr) hy hb with w | w | ⟨t, t1, t2⟩
    · exact Or.inl w
    · exact Or.inr (Or.inl ((Tis_out hw h y hy hU.2.1).1.trans w))
    · have hty := (Tis_out hw h y hy hU.2.1).1.trans t1
      have hta := TA_h hw' hy hU.2.1 hty
      have htn := (TH_lt hw t1).1
      refine Or.inr (Or.inr ⟨t, hty, t2.imp id (fun w => (Tis_out hw h t htn hta).1.trans w)⟩)
  refine ⟨fun r hr => ?_, fun r hr ha => ?_, ?_⟩
  · unfold apB
    rw [hS_74, hS_74, bits r hr]
    cases hb : bt (qMs T σ1 (Gsh G (Gsf G r)) (Gse G r)) y with
    | false => rw [Bool.false_and, Bool.false_and]
    | true =>
      rw [Bool.true_and, Bool.true_and]
      unfold Lst
      rw [hS_o, hS_o, h30]
      cases hg : Gsh G (Gsf G r) with
      | none => rfl
      | some q =>
        obtain ⟨q1, q2⟩ := host r q hr hg hb
        show (_ && TD (Tis T b x p i) q) = (_ && TD T q)
        rw [(TD_out hw h q q1 q2).1]
  · unfold apB at ha
    rw [hS_74, Bool.and_eq_true] at ha
    unfold Ldp
    rw [if_pos (by omega), if_pos (by omega)]
    cases hg : Gsh G (Gsf G r) with
    | none => rfl
    | some q =>
      obtain ⟨q1, q2⟩ := host r q hr hg ha.1
      show nI (TL (Tis T b x p i) q + 1) = nI (TL T q + 1)
      rw [(TD_out hw h q q1 q2).2]
  · unfold Ldp
    rw [if_neg (by omega), if_neg (by omega), show 40 + y - 40 = y by omega, (TD_out hw h y hy hU.2.1).2]
theorem Aft_TMs (hw : Tw T) (hy : y < Tn T) (h : Aft T x y) : TMs T (Tnx T x) y = true := by
  obtain ⟨z, ⟨z1, z2⟩, z3⟩ := h
  have sz := (Tsb_same hw z1).2.2
  have lz := Tix_lt hw z
  rw [sz] at lz
  obtain ⟨w, hwz⟩ : ∃ w, Tnx T x = some w := by
    cases hn : Tnx T x with
    | some w => exact ⟨w, rfl⟩
    | none =>
      unfold Tnx at hn
      rw [List.getElem?_eq_none_iff] at hn
      omega
  obtain ⟨-, -, -, w4, w5⟩ := Tnx_some hw hwz
  rw [hwz]
  show (Tsb T w).any (fun y' => decide (Tix T w ≤ Tix T y') && (decide (y = y') || TB T y' y)) = true
  rw [List.any_eq_true]
  refine ⟨z, by rw [w4]; exact z1, ?_⟩
  rw [decide_eq_true (show Tix T w ≤ Tix T z by omega), Bool.true_and]
  rcases TA_TB hw y hy z3 with w | w
  · rw [decide_eq_true w, Bool.true_or]
  · rw [w, Bool.or_true]
theorem TA_is (hw : Tw T) (h : inH T b x p i) {z : Nat} : ∀ y, y < Tn T → TA (Tis T b x p i) x y = false → TA (Tis T b x p i) z y = TA T z y := by
  have hw' := Tis_w hw h
  obtain ⟨rk, h1⟩ := hw'.rkup
  intro y
  refine qqInd (st := Tup (Tis T b x p i)) (μ := rk) (P := fun y => y < Tn T → TA (Tis T b x p i) x y = false → TA (Tis T b x p i) z y = TA T z y) ?_ y
  intro y ih hy ha
  have hyx := TA_e hw' hy ha
  have eu : Tup (Tis T b x p i) y = Tup T y := by rw [Tis_up h, if_neg hyx]
  rw [TA_eq hw hy, TA_eq hw' hy, eu]
  cases hu : Tup T y with
  | none => rfl
  | some q =>
    have hu' := eu.trans hu
    show (_ || TA (Tis T b x p i) z q) = (_ || TA T z q)
    rw [ih q hu' (h1 y q hu') (hw'.up hu').2 (TA_q hw' hy hu' ha)]
theorem Aft_TMs0 (hw : Tw T) (hh : inH T b x p i) (hy : y < Tn T) (ha : TA (Tis T b x p i) x y = false) (h : Aft (Tis T b x p i) x y) : TMs T ((Tls T b p)[i]?) y = true := by
  have hw' := Tis_w hw hh
  obtain ⟨z, ⟨z1, z2⟩, z3⟩ := h
  obtain ⟨s1, -, s3⟩ := Tis_sb hw hh
  have hi := hh.2.2.2.2
  have tx := s1 x (Or.inl rfl)
  have ixx : Tix (Tis T b x p i) x = i := by
    refine Tix_at hw' (e := x) (k := i) ?_
    rw [tx, ins_get x i _ i hi, if_neg (by omega), if_pos rfl]
  rw [tx, ins_mem] at z1
  have zx : z ≠ x := fun w => by rw [w] at z2; omega
  have zl : z ∈ Tls T b p := z1.resolve_left zx
  have gz := Tix_get hw' z
  rw [s1 z (Or.inr zl), ins_get x i _ _ hi, if_neg (by omega), if_neg (by omega)] at gz
  have iz : Tix T z = Tix (Tis T b x p i) z - 1 := Tix_at hw (e := z) (by rw [s3 z zl]; exact gz)
  have lz := (List.getElem?_eq_some_iff.mp gz).1
  obtain ⟨w, hwz⟩ : ∃ w, (Tls T b p)[i]? = some w := ⟨_, List.getElem?_eq_getElem (by omega)⟩
  have wl : w ∈ Tls T b p := List.mem_of_getElem? hwz
  have iw : Tix T w = i := Tix_at hw (e := w) (by rw [s3 w wl]; exact hwz)
  rw [hwz]
  show (Tsb T w).any (fun y' => decide (Tix T w ≤ Tix T y') && (decide (y = y') || TB T y' y)) = true
  rw [List.any_eq_true]
  refine ⟨z, by rw [s3 w wl]; exact zl, ?_⟩
  rw [decide_eq_true (show Tix T w ≤ Tix T z by omega), Bool.true_and]
  rw [TA_is hw hh y hy ha] at z3
  rcases TA_TB hw y hy z3 with w | w
  · rw [decide_eq_true w, Bool.true_or]
  · rw [w, Bool.or_true]
theorem flg1 (J : J1 T G σ) (h25 : σ2.1 25 = σ.1 25) (h33 : σ2.1 33 = σ.1 33) (h36 : σ2.2 36 = σ.2 36) : f_flags σ2 = some (nI (fl2 (bt (gAl G σ) 14) (bt (gAl G σ) 15))) := by
  have ru : RU σ2 (Gr G) (Gse G) := by
    have := J.1.2.2.ru
    unfold RU at this ⊢
    rw [h33, h36]
    exact this
  have f := r_flags ru
  rw [h25] at f
  rw [f]
  exact congrArg some (fl2_of (fun i h1 h2 => orF_bf (fun r hr => J.2.2.2.1 _ (J.1.2.2.se hr) i h1 h2)))
theorem gAl_no (h : bt (gAl G σ) 15 = false) : ∀ r, r < Gr G → bt (σ.1 25 (Gse G r)) 15 = false := orF_no h
theorem Q_in (J : J1 T G σ) (J' : J1 T' G' σ') (q : Q k mm hl dr T G σ) (pp : P_in T G σ T' G' σ') : Q (k + 1) mm hl dr T' G' σ' := by
  obtain ⟨rfl, b, x, p, i, σ2, σ5, tc, h, rfl, sb, s55, s4, rt2, tcc, hm1, hm2⟩ := pp
  have hw := J.1.1
  have hw' : Tw (Tis T b x p i) := J'.1.1
  have h30 := hw.n30
  have hx : x < Tn T := h.1.1
  obtain ⟨d1, d2, d3⟩ := Tis_D hw h
  obtain ⟨σa, ea, m1⟩ := r_markWith hw' rt2 (x := x) hx
  rw [hm1] at ea
  cases ea
  have g2 : ∀ f, f ≠ 81 → σ2.2 f = σ.2 f := fun f hf => (sb.2 f (by simp)).trans (sf_o hf)
  have mk2 : mkD (Tis T b x p i) σ2 := fun e he hb => by
    rw [g2 49 (by decide)] at hb
    obtain ⟨z1, z2⟩ := J.2.2.1.1 e he hb
    exact ⟨z1, d2 e z1 z2⟩
  have f5 : ∀ f, f ∉ [6, 7, 8, 9, 10, 11, 12] → σ2.1 f = σ.1 f := fun f hf => by
    by_cases c4 : f = 4
    · rw [c4]; exact s4
    · by_cases c5 : f = 55
      · rw [c5]; exact s55
      · exact sb.1 f (by unfold xtL; simp at hf ⊢; omega)
  have fl := flg1 (σ2 := σ5) J ((m1.sB.1 25 (by simp)).trans (f5 25 (by decide))) ((m1.sB.1 33 (by simp)).trans (f5 33 (by decide))) ((m1.sB.2 36 (by decide)).trans (g2 36 (by decide)))
  obtain ⟨σb, eb, m2⟩ := r_markPlace hw' (m1.rt rt2) (m1.mk mk2) (next := Tnx (Tis T b x p i) x) (p := Pp9 b p) (t := TH (Tis T b x p i) x) fl (fun y hy => Tnx_lt hw' hx hy) (fun y hy => by
    unfold Pp9 at hy
    by_cases c : b = true
    · rw [if_pos c] at hy; cases hy
    · rw [if_neg c] at hy; cases hy; exact h.1.2.1) tcc
  rw [hm2] at eb
  cases eb
  have f6 : ∀ f, f ∉ [6, 7, 8, 9, 10, 11, 12] → σ'.1 f = σ.1 f := fun f hf => (m2.sB.1 f (by simp)).trans ((m1.sB.1 f (by simp)).trans (f5 f hf))
  have g6 : ∀ f, f ≠ 81 → f ≠ 49 → σ'.2 f = σ.2 f := fun f h1 h2 => (m2.sB.2 f (by simpa using h2)).trans ((m1.sB.2 f (by simpa using h2)).trans (g2 f h1))
  have h2 : ∀ y, y < Tn T → rEq σ σ' y ∧ σ'.1 46 y = σ.1 46 y := fun y hy => ⟨⟨fun p _ => by rw [f6 43 (by decide)], fun v _ => by rw [f6 44 (by decide), f6 45 (by decide)]; exact ⟨rfl, rfl⟩⟩, by rw [f6 46 (by decide)]⟩
  have e37 := f6 37 (by decide)
  have fb : ∀ f, f ∉ [6, 7, 8, 9, 10, 11, 12] → σ'.1 f = σ.1 f := f6
  refine Q_edit J.1.1 J'.1.1 J.1.2.2.r40 q rfl (fun f hf => f6 f (by revert f; decide)) h2 (fun e he p hp => Or.inl (by rw [f6 55 (by decide)])) (fun f hf => g6 f (fun z => by rw [z] at hf; revert hf; decide) (fun z => by rw [z] at hf; revert hf; decide)) (fun a ha => ?_) (fun z => ⟨z, fun a ha => ?_⟩) (fun y hy hd h48 h49 => ?_) (Or.inr (fun x hx h => d2 x hx h))
  · rw [Ldc_cg e37, Ldc_cg e37]; exact q.2.2.2.1.1 a ha
  · rw [Ldc_cg e37]; exact (q.2.2.2.2.2 z).1 a ha
  · obtain ⟨a1, a2⟩ := m2.at (T := Tis T b x p i) hy h30 hd h49
    obtain ⟨a3, a4⟩ := m1.at (T := Tis T b x p i) hy h30 hd a1
    rw [g2 49 (by decide)] at a3
    rw [g6 48 (by decide) (by decide)] at h48
    rw [Bool.or_eq_false_iff] at a4
    have yx : y ≠ x := of_decide_eq_false a4.1
    have ha := TA_out hw' (y := y) hy yx a4.2
    unfold TMm at a2
    rw [Bool.or_eq_false_iff, Bool.or_eq_false_iff] at a2
    obtain ⟨a5, a6, a7⟩ := a2
    unfold TMh at a6
    rw [Bool.or_eq_false_iff] at a6
    have ip : iP (Tis T b x p i) x y := ⟨hy, yx, a4.2, fun t ht => by
      have := a6.2
      rw [ht] at this
      exact this⟩
    have hU : Uset (Tis T b x p i) (bt (gAl G' σ) 14) x y := ⟨hy, ha, fun ho w => by
      have := Aft_TMs hw' (y := y) hy w
      rw [ho, this] at a5
      cases a5⟩
    have pf : ∀ f, f ∈ pFd → σ'.1 f = σ.1 f := fun f hf => f6 f (by unfold pFd at hf; simp at hf ⊢; omega)
    obtain ⟨l1, l2, l3⟩ := ap_is (σ1 := σ) (σ2 := σ') (y := y) hw h J.1.2.2 J.2.1.1 (fun s hs => (q.1.1 s hs).2.1) (gAl_no a7) (fun r hr z => (orF_bt _ _ _).mpr ⟨r, hr, z⟩) pf (f6 30 (by decide)) hU
    refine ⟨by rw [← (TD_out hw h y hy ha).1]; exact hd, h48, a3, fEq.of (fun f hf => f6 f (by simp at hf ⊢; omega)) (g6 50 (by decide) (by decide)), ⟨l1, l2, l3⟩, (iP_sp hw h ip).1.symm, ?_⟩
    have : hsz (Tis T b x p i) σ' 0 y = hsz (Tis T b x p i) σ 0 y := hsz_rows hw' h2 hy
    rw [this]
    unfold hsz
    rw [Tho_keep hw hw' rfl (P := iP (Tis T b x p i) x) (fun z hz hp => ⟨(iP_sp hw h hp).1.symm, fun w hw2 => (iP_sp hw h hp).2 w ((iP_sp hw h hp).1.symm.trans hw2)⟩) y hy ip]
theorem Q_tk (J : J1 T G σ) (J' : J1 T' G' σ') (q : Q k mm false dr T G σ) (pp : P_tk T G σ T' G' σ') : Q (k + 1) mm false dr T' G' σ' := by
  obtain ⟨rfl, b, x, p, i, σ2, σ6, tc, h, rfl, sb, s55, s4, rt2, tcc, hm1, hm2⟩ := pp
  have hw1 : Tw (Tis T' b x p i) := J.1.1
  have hw : Tw T' := J'.1.1
  have h30 := hw.n30
  have hx : x < Tn T' := h.1.1
  obtain ⟨d1, d2, d3⟩ := Tis_D hw h
  have g2 : ∀ f, f ≠ 81 → σ2.2 f = σ.2 f := fun f hf => (sb.2 f (by simp)).trans (sf_o hf)
  have f5 : ∀ f, f ∉ [6, 7, 8, 9, 10, 11, 12] → σ2.1 f = σ.1 f := fun f hf => by
    by_cases c4 : f = 4
    · rw [c4]; exact s4
    · by_cases c5 : f = 55
      · rw [c5]; exact s55
      · exact sb.1 f (by unfold xtL; simp at hf ⊢; omega)
  have fl := flg1 (σ2 := σ2) J (f5 25 (by decide)) (f5 33 (by decide)) (g2 36 (by decide))
  obtain ⟨σb, eb, m2⟩ := r_mkPl hw rt2 (next := (Tls T' b p)[i]?) (p := Pp9 b p) (t := TH (Tis T' b x p i) x) (tc := tc) fl (fun y hy => by
    have hm := List.mem_of_getElem? hy
    unfold Tls at hm
    by_cases c : b = true
    · rw [if_pos c] at hm; exact (hw.tlt hm).1
    · rw [if_neg c] at hm; exact (hw.clt hm).1) (fun y hy => by
    unfold Pp9 at hy
    by_cases c : b = true
    · rw [if_pos c] at hy; cases hy
    · rw [if_neg c] at hy; cases hy; exact h.1.2.1) tcc
  rw [hm1] at eb
  cases eb
  have rt6 := RMw_rt m2 rt2
  obtain ⟨σ7, e7, s7, ⟨l48, l49⟩, l55⟩ := r_leave hw rt6
  rw [hm2] at e7
  cases e7
  have f7 : ∀ f, f ∉ [6, 7, 8, 9, 10, 11, 12, 55] → σ'.1 f = σ.1 f := fun f hf => (s7.1 f (fun z => hf (by simp at z; simp [z]))).trans (((RMw_sB m2).1 f (by simp)).trans (f5 f (fun z => hf (by simp at z ⊢; omega))))
  have g7 : ∀ f, f ≠ 81 → f ≠ 48 → f ≠ 49 → σ'.2 f = σ.2 f := fun f h1 h2 h3 => (s7.2 f (by simp; exact ⟨h2, h3⟩)).trans (((RMw_sB m2).2 f (by simpa using h3)).trans (g2 f h1))
  have h2 : ∀ y, y < Tn (Tis T' b x p i) → rEq σ σ' y ∧ σ'.1 46 y = σ.1 46 y := fun y hy => ⟨⟨fun p _ => by rw [f7 43 (by decide)], fun v _ => by rw [f7 44 (by decide), f7 45 (by decide)]; exact ⟨rfl, rfl⟩⟩, by rw [f7 46 (by decide)]⟩
  have e37 := f7 37 (by decide)
  refine Q_edit J.1.1 J'.1.1 J.1.2.2.r40 q rfl (fun f hf => f7 f (by simp at hf ⊢; omega)) h2 (fun e he p hp => ?_) (fun f hf => g7 f (fun z => by rw [z] at hf; revert hf; decide) (fun z => by rw [z] at hf; revert hf; decide) (fun z => by rw [z] at hf; revert hf; decide)) (fun a ha => ?_) (fun z => ⟨z, fun a ha => ?_⟩) (fun y hy hd h48 h49 => ?_) (Or.inl rfl)
  · have he' : e < Tn T' := he
    rw [l55 e p (by omega) hp]
    by_cases c : (decide (e < Tn T') && TD T' e) = true
    · rw [if_pos c, (RMw_sB m2).1 55 (by simp), f5 55 (by decide)]; exact Or.inl rfl
    · rw [if_neg c]; exact Or.inr rfl
  · rw [Ldc_cg e37, Ldc_cg e37]; exact q.2.2.2.1.1 a ha
  · rw [Ldc_cg e37]; exact (q.2.2.2.2.2 z).1 a ha
  · have hy' : y < Tn T' := hy
    have bd : bt (qqM (TD T') (Tn T')) y = true := by rw [qqM_bt _ _ (by omega) y (by omega), decide_eq_true hy', hd]; rfl
    rw [l48, b_and, bd, Bool.and_true, (RMw_sB m2).2 48 (by decide), g2 48 (by decide)] at h48
    rw [l49, b_and, bd, Bool.and_true] at h49
    obtain ⟨v, hv, hvb⟩ := m2
    have := hvb y hy' hd
    rw [hv, sf_s] at h49
    rw [h49] at this
    obtain ⟨a3, a2⟩ := Bool.or_eq_false_iff.mp this.symm
    rw [g2 49 (by decide)] at a3
    unfold TMm at a2
    rw [Bool.or_eq_false_iff, Bool.or_eq_false_iff] at a2
    obtain ⟨a5, a6, a7⟩ := a2
    unfold TMh at a6
    rw [Bool.or_eq_false_iff] at a6
    have dT : TD (Tis T' b x p i) y = true := d2 y hy' hd
    have ha : TA (Tis T' b x p i) x y = false := by
      cases hb : TA (Tis T' b x p i) x y with
      | false => rfl
      | true =>
        exfalso
        obtain ⟨rk, h1⟩ := hw1.rkup
        have key : ∀ z, z < Tn T' → TA (Tis T' b x p i) x z = true → TD T' z = false := by
          intro z
          refine qqInd (st := Tup (Tis T' b x p i)) (μ := rk) (P := fun z => z < Tn T' → TA (Tis T' b x p i) x z = true → TD T' z = false) ?_ z
          intro z ih hz hb
          by_cases c : z = x
          · rw [c]; exact d1
          · cases hu : Tup (Tis T' b x p i) z with
            | none => rw [TA_eq hw1 hz, hu] at hb; exact absurd (of_decide_eq_true hb) c
            | some w =>
              rw [TA_u hw1 hz hu, decide_eq_false c, Bool.false_or] at hb
              have := ih w hu (h1 z w hu) (hw1.up hu).2 hb
              rw [Tis_up h, if_neg c] at hu
              rw [TD_up hw hu]; exact this
        rw [key y hy' hb] at hd; cases hd
    have yx : y ≠ x := TA_e hw1 hy ha
    have hU : Uset (Tis T' b x p i) (bt (gAl G' σ) 14) x y := ⟨hy, ha, fun ho w => by
      have := Aft_TMs0 hw h (y := y) hy' ha w
      rw [ho, this] at a5
      cases a5⟩
    have pf : ∀ f, f ∈ pFd → σ.1 f = σ'.1 f := fun f hf => (f7 f (by unfold pFd at hf; simp at hf ⊢; omega)).symm
    have e25 := f7 25 (by decide)
    obtain ⟨l1, l2, l3⟩ := ap_is (σ1 := σ') (σ2 := σ) (y := y) hw h J'.1.2.2 J'.2.1.1 (fun s hs => ((q.1.1 s hs).cg (fun f hf => f7 f (by simp at hf ⊢; omega))).2.1) (fun r hr => by rw [e25]; exact gAl_no a7 r hr) (fun r hr z => (orF_bt _ _ _).mpr ⟨r, hr, by rw [e25] at z; exact z⟩) pf (f7 30 (by decide)).symm hU
    have tB : ∀ z, z < Tn T' → TA (Tis T' b x p i) x z = false → ∀ w, TB T' w z = false → True := fun _ _ _ _ _ => trivial
    have iq : ∀ z, (z < Tn T' ∧ TA (Tis T' b x p i) x z = false ∧ TD T' z = true ∧ ∀ t, TH (Tis T' b x p i) x = some t → TB T' t z = false) → Tsp T' z = Tsp (Tis T' b x p i) z ∧ ∀ w, Tsp T' z = some w → (w < Tn T' ∧ TA (Tis T' b x p i) x w = false ∧ TD T' w = true ∧ ∀ t, TH (Tis T' b x p i) x = some t → TB T' t w = false) := fun z hz => by
      obtain ⟨z1, z2, z3, z4⟩ := hz
      have zx := TA_e hw1 z1 z2
      have ep : Tp (Tis T' b x p i) z = Tp T' z := by rw [Tis_p, if_neg (fun w => zx w.1)]
      have eh : Th (Tis T' b x p i) z = Th T' z := by rw [Tis_h, if_neg (fun w => zx w.1)]
      have key : Tsp (Tis T' b x p i) z = Tsp T' z := by
        refine Tsp_eq9 hw hw1 ep eh (fun q' hq' => ⟨rfl, fun hs => ⟨rfl, ?_⟩⟩)
        have hqx : TH (Tis T' b x p i) x ≠ some q' := fun w => by
          have := TB_up hw z z1 q' (Tup_p hq')
          rw [z4 q' w] at this; cases this
        have hqa := TA_q hw1 z1 (Tup_p (ep.trans hq')) z2
        have := Tslot_pair (T := Tis T' b x p i) (T' := T') hw1 hw rfl (q := q') (by
          rw [Tis_t, if_neg (fun w => hqx ?_)]
          rw [TH_x hw1 h, if_pos w.2, w.1]) (fun u hu huq => ?_) (Ta T' z)
        · exact this.symm
        · have hza : TA (Tis T' b x p i) x u = false := by
            cases hb : TA (Tis T' b x p i) x u with
            | false => rfl
            | true =>
              rcases TH_B hw1 u hu hb with w | ⟨q2, w1, w2⟩
              · exact absurd (w.symm.trans huq) hqx
              · rw [huq] at w1; cases w1
                rw [hqa] at w2; cases w2
          exact ⟨rfl, rfl, (Tni_out hw h hu hza (by rw [huq]; exact fun w => hqx w.symm)).symm⟩
      refine ⟨key.symm, fun w hw2 => ?_⟩
      have wn := (Tsp_cases hw hw2).2.1
      have wd := (Tsp_D hw hw2).symm.trans z3
      refine ⟨wn, ?_, wd, fun t ht => (TB_no hw z1 hw2 (z4 t ht)).2⟩
      cases hb : TA (Tis T' b x p i) x w with
      | false => rfl
      | true =>
        exfalso
        rcases TA_TB hw1 w wn hb with c | c
        · rw [c, d1] at wd; cases wd
        · have hzb : TB (Tis T' b x p i) x z = true := TB_tr hw1 c z z1 (by
            rw [TB_eq hw1 z1, key, hw2]
            show ((w == w) || _) = true
            simp)
          have s2 := TB_D hw1 z z1 hzb
          obtain ⟨u, hu1, hu2⟩ : ∃ u, u = w ∧ TD T' u = true := ⟨w, rfl, wd⟩
          subst hu1
          obtain ⟨rk, h1⟩ := hw1.rkup
          have key2 : ∀ z, z < Tn T' → TA (Tis T' b x p i) x z = true → TD T' z = false := by
            intro z
            refine qqInd (st := Tup (Tis T' b x p i)) (μ := rk) (P := fun z => z < Tn T' → TA (Tis T' b x p i) x z = true → TD T' z = false) ?_ z
            intro z ih hz hb
            by_cases c : z = x
            · rw [c]; exact d1
            · cases hu : Tup (Tis T' b x p i) z with
              | none => rw [TA_eq hw1 hz, hu] at hb; exact absurd (of_decide_eq_true hb) c
              | some w =>
                rw [TA_u hw1 hz hu, decide_eq_false c, Bool.false_or] at hb
                have := ih w hu (h1 z w hu) (hw1.up hu).2 hb
                rw [Tis_up h, if_neg c] at hu
                rw [TD_up hw hu]; exact this
          rw [key2 u wn hb] at hu2; cases hu2
    have ip : y < Tn T' ∧ TA (Tis T' b x p i) x y = false ∧ TD T' y = true ∧ ∀ t, TH (Tis T' b x p i) x = some t → TB T' t y = false := ⟨hy', ha, hd, fun t ht => by
      have := a6.2
      rw [ht] at this
      exact this⟩
    refine ⟨dT, h48, a3, fEq.of (fun f hf => f7 f (by simp at hf ⊢; omega)) (g7 50 (by decide) (by decide) (by decide)), ⟨fun r hr => (l1 r hr).symm, fun r hr z => (l2 r hr (by rw [← l1 r hr]; exact z)).symm, l3.symm⟩, (iq y ip).1, ?_⟩
    have : hsz T' σ' 0 y = hsz T' σ 0 y := hsz_rows hw h2 hy'
    rw [this]
    unfold hsz
    rw [Tho_keep hw1 hw rfl (P := fun z => z < Tn T' ∧ TA (Tis T' b x p i) x z = false ∧ TD T' z = true ∧ ∀ t, TH (Tis T' b x p i) x = some t → TB T' t z = false) (fun z hz hp => ⟨(iq z hp).1, fun w hw2 => (iq z hp).2 w ((iq z hp).1.trans hw2)⟩) y hy ip]
end QN
