def pt0R (e p i : Nat) (σ : mS) : Option mS := (wr σ 9 (((30:Int32) * nI p) + nI i) (nI e)).bind (fun s1 => (rd s1 10 (nI p)).bind (fun v2 => (wr s1 10 (nI p) (v2 + (1:Int32))).bind (fun s3 => (wr s3 6 (nI e) (nI p)).bind (fun s4 => (f_markWith (nI e) s4).bind (fun v5 => (f_sibling (nI e) v5).bind (fun v6 => (f_treeOf (nI e) v5).bind (fun v7 => (f_markPlace v6 (nI p) v7 v5).bind (fun v8 => f_put_171 v8))))))))
def pt1R (e p i : Nat) (σ : mS) : Option mS := (wr σ 11 (((30:Int32) * nI p) + nI i) (nI e)).bind (fun s1 => (rd s1 12 (nI p)).bind (fun v2 => (wr s1 12 (nI p) (v2 + (1:Int32))).bind (fun s3 => (wr s3 7 (nI e) (nI p)).bind (fun s4 => (f_markWith (nI e) s4).bind (fun v5 => (f_sibling (nI e) v5).bind (fun v6 => (f_markPlace v6 ((-1):Int32) (nI p) v5).bind (fun v7 => f_putTop_177 v7)))))))
def shS (F p i k : Nat) (τ τ' : mS) : Prop := sB [F] [] τ τ' ∧ ∀ j, τ'.1 F j = if 30 * p + i < j ∧ j ≤ 30 * p + k then τ.1 F (j - 1) else τ.1 F j
def P_in (T : qqT) (G : qqG) (σ : mS) (T' : qqT) (G' : qqG) (σ' : mS) : Prop := G' = G ∧ ∃ b e p i σ2 σ5 tc, inH T b e p i ∧ T' = Tis T b e p i ∧ sB xtL [] (sf σ 81 0) σ2 ∧ σ2.1 55 = σ.1 55 ∧ σ2.1 4 = σ.1 4 ∧ RT T' σ2 ∧ tcO T' (TH T' e) tc ∧ f_markWith (nI e) σ2 = some σ5 ∧ f_markPlace (qqO (Tnx T' e)) (qqO (Pp9 b p)) tc σ5 = some σ'
section PT1
variable {T T' : qqT} {G : qqG} {L : qqL} {A A' : kA} {ex ex' : Nat → Nat → Prop} {K K' K1 : kS} {S S' S1 : cS} {σ σ' σ2 : mS} {v v' e p i x k nw9 : Nat}
theorem r_sh0 (hp : p < 30) : ∀ d m k τ, i + d = k → k < 30 → d < m → ∃ τ', f_put_84 m (nI e) (nI p) (nI i) (nI k) τ = pt0R e p i τ' ∧ shS 9 p i k τ τ' := by
  intro d
  induction d with
  | zero =>
    intro m k τ hk h30 hm
    obtain ⟨m, rfl⟩ : ∃ m', m = m' + 1 := ⟨m - 1, by omega⟩
    have hk : k = i := by omega
    subst hk
    refine ⟨τ, ?_, sB.rf _, fun j => (if_neg (by omega)).symm⟩
    rw [f_put_84, if_pos (Int32.le_refl _)]
    rfl
  | succ d ih =>
    intro m k τ hk h30 hm
    obtain ⟨m, rfl⟩ : ∃ m', m = m' + 1 := ⟨m - 1, by omega⟩
    obtain ⟨k, rfl⟩ : ∃ k', k = k' + 1 := ⟨k - 1, by omega⟩
    obtain ⟨τ', e1, sb, c1⟩ := ih m k (up τ 9 (30 * p + (k + 1)) (τ.1 9 (30 * p + k))) (by omega) (by omega) (by omega)
    refine ⟨τ', ?_, ((sB.rf _).up (by simp)).tr sb, fun j => ?_⟩
    · have e2 : nI (30 * p + (k + 1)) - 1 = nI (30 * p + k) := by
        rw [show (1 : Int32) = nI 1 from rfl, pk_sub (by omega)]; rfl
      rw [f_put_84, if_neg (nI_ge (by omega) (by omega)), show (30 : Int32) = nI 30 from rfl, pk_mul, nI_add, e2, rd_9 (by omega), qqx, wr_9 (by omega), qqx, nI_prem]
      exact e1
    · rw [c1 j]
      by_cases c : 30 * p + i < j ∧ j ≤ 30 * p + k
      · rw [if_pos c, if_pos (by omega), up_sn (by omega)]
      · rw [if_neg c]
        by_cases d : j = 30 * p + (k + 1)
        · rw [d, up_ss, if_pos (by omega)]; rfl
        · rw [up_sn d, if_neg (by omega)]
theorem rt_in0 (hw : Tw T) (h : inH T false e p i) (rt : RT T σ) {τ : mS} (s : shS 9 p i (Tc T p).length σ τ) : RT (Tis T false e p i) (up (up (up τ 9 (30 * p + i) (nI e)) 10 p (nI ((Tc T p).length + 1))) 6 e (nI p)) := by
  have hw' := Tis_w hw h
  have h30 := hw.n30
  obtain ⟨⟨he, hp, he0⟩, -, -, -, hi⟩ := id h
  have el' : Tls T false p = Tc T p := if_neg (by decide)
  rw [el'] at hi
  obtain ⟨s1, s2⟩ := s
  obtain ⟨a13, a6, a7, a8, a10, a12, a9, a11, a0, a4⟩ := rt
  have o : ∀ f, f ≠ 9 → f ≠ 10 → f ≠ 6 → (up (up (up τ 9 (30 * p + i) (nI e)) 10 p (nI ((Tc T p).length + 1))) 6 e (nI p)).1 f = σ.1 f := fun f h1 h2 h3 => by rw [up_o h3, up_o h2, up_o h1, s1.1 f (by simp [h1])]
  have oU : ∀ x, x < 30 → (up (up (up τ 9 (30 * p + i) (nI e)) 10 p (nI ((Tc T p).length + 1))) 6 e (nI p)).1 6 x = qqO (Tp (Tis T false e p i) x) := fun x hx => by
    rw [up_s, Tis_p]
    by_cases c : x = e
    · rw [if_pos c, if_pos ⟨c, rfl⟩]; rfl
    · rw [if_neg c, if_neg (fun z => c z.1), up_o (by decide), up_o (by decide), s1.1 6 (by decide)]; exact a6 x hx
  have oC : ∀ x, x < 30 → (up (up (up τ 9 (30 * p + i) (nI e)) 10 p (nI ((Tc T p).length + 1))) 6 e (nI p)).1 10 x = nI (Tc (Tis T false e p i) x).length := fun x hx => by
    rw [up_o (by decide), up_s, Tis_c]
    by_cases c : x = p
    · rw [if_pos c, if_pos ⟨c, rfl⟩, c, ins_len]
    · rw [if_neg c, if_neg (fun z => c z.1), up_o (by decide), s1.1 10 (by decide)]; exact a10 x hx
  have oF : ∀ q k x, (Tc (Tis T false e p i) q)[k]? = some x → (up (up (up τ 9 (30 * p + i) (nI e)) 10 p (nI ((Tc T p).length + 1))) 6 e (nI p)).1 9 (30 * q + k) = nI x := fun q k x hx => by
    rw [up_o (by decide), up_o (by decide)]
    rw [Tis_c] at hx
    by_cases c : q = p
    · rw [if_pos ⟨c, rfl⟩, c, ins_get _ _ _ _ hi] at hx
      rw [c]
      by_cases d : k < i
      · rw [if_pos d] at hx
        rw [up_sn (by omega), s2, if_neg (by omega)]; exact a9 p k x hx
      · rw [if_neg d] at hx
        by_cases f : k = i
        · rw [if_pos f] at hx
          cases hx
          rw [f, up_ss]
        · rw [if_neg f] at hx
          have kl : k - 1 < (Tc T p).length := (List.getElem?_eq_some_iff.mp hx).1
          rw [up_sn (by omega), s2, if_pos (by omega), show 30 * p + k - 1 = 30 * p + (k - 1) by omega]; exact a9 p (k - 1) x hx
    · rw [if_neg (fun z => c z.1)] at hx
      have kl : k < (Tc T q).length := (List.getElem?_eq_some_iff.mp hx).1
      have k30 := hw.clen q
      have l30 : (Tc T p).length < 30 := by
        have := hw'.clen p
        rw [Tis_c, if_pos ⟨rfl, rfl⟩, ins_len] at this
        have h9 : (Tc T p).length + 1 ≤ Tn T := this
        omega
      rw [up_sn (by omega), s2, if_neg (by omega)]; exact a9 q k x hx
  refine ⟨(s1.2 13 (by simp)).trans a13, oU, fun x hx => by rw [o 7 (by decide) (by decide) (by decide), Tis_h, if_neg (fun z => by cases z.2)]; exact a7 x hx, fun x hx => by rw [o 8 (by decide) (by decide) (by decide)]; exact a8 x hx, oC, fun x hx => by rw [o 12 (by decide) (by decide) (by decide), Tis_t, if_neg (fun z => by cases z.2)]; exact a12 x hx, oF, fun q k x hx => by rw [o 11 (by decide) (by decide) (by decide)]; rw [Tis_t, if_neg (fun z => by cases z.2)] at hx; exact a11 q k x hx, fun x hx => by rw [o 0 (by decide) (by decide) (by decide)]; exact a0 x hx, fun x hx => by rw [o 4 (by decide) (by decide) (by decide)]; exact a4 x hx⟩
theorem put0_core (hk : k < 60000) (w : JW k T G L A ex K v nw9 S σ) (h : inH T false e p i) : sJU [2, 1] (JP (pf T G σ (P_in T G σ)) (k + 1)) (f_X11_put_61 (A 49 0) (nI i) (some (A 0 e)) (some (A 0 p)) 0 S) (f_put_70 (nI e) (nI p) (nI i) 0 σ) := by
  obtain ⟨⟨hw, hA, hin⟩, h49, ⟨hv, hn, h54⟩, j⟩ := id w
  have h30 := hw.n30
  have q := j.1.1
  have rt := j.1.2.2.2
  have hw' := Tis_w hw h
  have hno := Tls_no hw h
  obtain ⟨⟨he, hp, he0⟩, ⟨h1, h2⟩, hta, hts, hi⟩ := id h
  have el' : Tls T false p = Tc T p := if_neg (by decide)
  rw [el'] at hi hno
  have l30 : (Tc T p).length < 30 := by
    have := hw'.clen p
    rw [Tis_c, if_pos ⟨rfl, rfl⟩, ins_len] at this
    have h9 : (Tc T p).length + 1 ≤ Tn T := this
    omega
  have j0 := j.scR (scR_sf σ 0)
  have x50 := q.1.2.1
  have x0 : ∀ y, y < Tn T → ex 0 y := fun y hy => q.1.E hy (by decide)
  have ml : ∀ y, y ∈ Tc T p → y < Tn T ∧ y ≠ e := fun y hy => ⟨(hw.clt hy).1, fun z => hno (by rw [← z]; exact hy)⟩
  obtain ⟨S1, K1, e1, hA1, b1, f8, f9, f12, f13, f10, f11⟩ := c_insW (b := false) (p := p) (e := e) (pv := pvI (Tc T p) i) (nx := (Tc T p)[i]?) hA x50 (x0 e he) (x0 p hp) (fun y hy => by
    have : y ∈ Tc T p := by
      unfold pvI at hy
      by_cases c : i = 0
      · rw [if_pos c] at hy; cases hy
      · rw [if_neg c] at hy; exact List.mem_of_getElem? hy
    exact ⟨x0 y (ml y this).1, (ml y this).2⟩) (fun y hy => ⟨x0 y (ml y (List.mem_of_getElem? hy)).1, (ml y (List.mem_of_getElem? hy)).2⟩)
  have t1 : KT (Tis T false e p i) ex K1 := KT_ins hw h q.1 b1 f8 f9 (by rw [el']; exact f12) (by rw [el']; exact f13) (by rw [el']; exact f10) (by rw [el']; exact f11)
  obtain ⟨τ, r1, sh⟩ := r_sh0 (e := e) (p := p) (i := i) (by omega) ((Tc T p).length - i) 4000 (Tc T p).length (sf σ 81 0) (by omega) l30 (by omega)
  have rt2 := rt_in0 (σ := sf σ 81 0) hw h rt sh
  have sbT : sB xtL [] (sf σ 81 0) (up (up (up τ 9 (30 * p + i) (nI e)) 10 p (nI ((Tc T p).length + 1))) 6 e (nI p)) := (((sh.1.wd (fun f hf => by revert f; decide) (fun _ h => h)).up (by decide)).up (by decide)).up (by decide)
  have s55 : (up (up (up τ 9 (30 * p + i) (nI e)) 10 p (nI ((Tc T p).length + 1))) 6 e (nI p)).1 55 = (sf σ 81 0).1 55 := by rw [up_o (by decide), up_o (by decide), up_o (by decide), sh.1.1 55 (by decide)]
  have s4 : (up (up (up τ 9 (30 * p + i) (nI e)) 10 p (nI ((Tc T p).length + 1))) 6 e (nI p)).1 4 = (sf σ 81 0).1 4 := by rw [up_o (by decide), up_o (by decide), up_o (by decide), sh.1.1 4 (by decide)]
  obtain ⟨-, dd1, dd2⟩ := Tis_D hw h
  obtain ⟨S2, S3, K3, σ5, σ6, m1, m2, m3, m4, m5, m6, m7, m8, m9, m10, m11, m12, m13⟩ := mv_both hw hw' j0 rfl rfl dd1 dd2 he hA1 t1 b1 sbT s55 s4 rt2 (pp := some p) (tt := TH (Tis T false e p i) e) (tc := Tco (Tis T false e p i) e) (fun y hy => by cases hy; exact hp) (fun y hy => (TH_lt hw' hy).1) (tcO_of hw') (by omega)
  have runR : f_put_70 (nI e) (nI p) (nI i) 0 σ = some σ6 := by
    have c0 : (sf σ 81 0).1 10 p = nI (Tc T p).length := rt.2.2.2.2.1 p (by omega)
    have cτ : τ.1 10 p = nI (Tc T p).length := by rw [sh.1.1 10 (by decide)]; exact c0
    unfold f_put_70
    rw [r_holds0, qqx, if_pos rfl]
    dsimp only
    rw [rd_10 (by omega), qqx, c0, r1]
    unfold pt0R
    rw [show (30 : Int32) = nI 30 from rfl, pk_mul, nI_add, wr_9 (by omega), qqx, rd_10 (by omega), qqx, up_o (by decide), cτ, nI_1, wr_10 (by omega), qqx, wr_6 (by omega), qqx, m6, qqx, m7, qqx, m8, qqx, show f_markPlace (qqO (Tnx (Tis T false e p i) e)) (nI p) (Tco (Tis T false e p i) e) σ5 = some σ6 from m9, qqx]
    rfl
  have runI : f_X10_insert (A 50 0) (some (A 0 e)) (some (A 0 p)) none (nI i) S = some S2 := by
    have g := c_ins31 q.1 hA (l := Tc T p) (i := i) (fun y hy => (ml y hy).1) (sibL_c hw p) hi (by omega) (some (A 0 e)) (some (A 0 p)) none i 4000 0 (by omega) (by omega)
    have g' : f_X10_insert_31 (A 50 0) 4000 (some (A 0 e)) (some (A 0 p)) none (nI i) none (el A (Tc T p).head?) 0 S = f_X10_insert_60 (A 50 0) (some (A 0 e)) (some (A 0 p)) none (el A (pvI (Tc T p) i)) (el A (Tc T p)[i]?) S := by
      rw [List.head?_eq_getElem?]; exact g
    have e1' : f_X10_insert_60 (A 50 0) (some (A 0 e)) (some (A 0 p)) none (el A (pvI (Tc T p) i)) (el A (Tc T p)[i]?) S = (f_X10_layOut (A 50 0) S1).bind (fun v8 => some v8) := e1
    unfold f_X10_insert f_X10_insert_26
    rw [if_neg (fun z => by cases z), q.1.g10 hA hp, qqx, g', e1', m1, qqx]
  unfold f_X11_put_61
  rw [c_refS0, qqx]
  show sJU _ _ ((gR S (some (A 49 0)) 11 0).bind _) _
  rw [q.2.1.trees hA, qqx, hA.Rc 50 10 x50 rfl, qqx, runI, qqx, m2, qqx, m3, qqx, m4, qqx, show f_X11_markMove (A 49 0) (some (A 0 e)) (el A (Tnx (Tis T false e p i) e)) (some (A 0 p)) (el A (TH (Tis T false e p i) e)) S2 = some S3 from m5, qqx, runR]
  have f81 : σ6.2 81 = 0 := (m13.2 81 (by decide)).trans rfl
  have f54 : σ6.2 54 = σ.2 54 := (m13.2 54 (by decide)).trans rfl
  exact sJU.r f81 (fun n hn1 => ⟨Tis T false e p i, G, L, A, ex, K3, v + 1, nw9, ⟨⟨hw', m10.mono hn1, hin.kp m12 (fun i j => by unfold xtP; omega)⟩, h49, ⟨by omega, hn, f54.trans h54⟩, m11⟩, Or.inr ⟨f81, rfl, false, e, p, i, _, σ5, _, h, rfl, sbT, s55, s4, rt2, (by first | exact tcO_of hw' | (rw [show TH (Tis T true e p i) e = some p from TH_h hw' (by rw [Tis_h, if_pos ⟨rfl, rfl⟩])]; exact ⟨rfl, hp⟩)), m6, m9⟩⟩)
theorem r_sh1 (hp : p < 30) : ∀ d m k τ, i + d = k → k < 30 → d < m → ∃ τ', f_putTop_94 m (nI e) (nI p) (nI i) (nI k) τ = pt1R e p i τ' ∧ shS 11 p i k τ τ' := by
  intro d
  induction d with
  | zero =>
    intro m k τ hk h30 hm
    obtain ⟨m, rfl⟩ : ∃ m', m = m' + 1 := ⟨m - 1, by omega⟩
    have hk : k = i := by omega
    subst hk
    refine ⟨τ, ?_, sB.rf _, fun j => (if_neg (by omega)).symm⟩
    rw [f_putTop_94, if_pos (Int32.le_refl _)]
    rfl
  | succ d ih =>
    intro m k τ hk h30 hm
    obtain ⟨m, rfl⟩ : ∃ m', m = m' + 1 := ⟨m - 1, by omega⟩
    obtain ⟨k, rfl⟩ : ∃ k', k = k' + 1 := ⟨k - 1, by omega⟩
    obtain ⟨τ', e1, sb, c1⟩ := ih m k (up τ 11 (30 * p + (k + 1)) (τ.1 11 (30 * p + k))) (by omega) (by omega) (by omega)
    refine ⟨τ', ?_, ((sB.rf _).up (by simp)).tr sb, fun j => ?_⟩
    · have e2 : nI (30 * p + (k + 1)) - 1 = nI (30 * p + k) := by
        rw [show (1 : Int32) = nI 1 from rfl, pk_sub (by omega)]; rfl
      rw [f_putTop_94, if_neg (nI_ge (by omega) (by omega)), show (30 : Int32) = nI 30 from rfl, pk_mul, nI_add, e2, rd_11 (by omega), qqx, wr_11 (by omega), qqx, nI_prem]
      exact e1
    · rw [c1 j]
      by_cases c : 30 * p + i < j ∧ j ≤ 30 * p + k
      · rw [if_pos c, if_pos (by omega), up_sn (by omega)]
      · rw [if_neg c]
        by_cases d : j = 30 * p + (k + 1)
        · rw [d, up_ss, if_pos (by omega)]; rfl
        · rw [up_sn d, if_neg (by omega)]
theorem rt_in1 (hw : Tw T) (h : inH T true e p i) (rt : RT T σ) {τ : mS} (s : shS 11 p i (Tt T p).length σ τ) : RT (Tis T true e p i) (up (up (up τ 11 (30 * p + i) (nI e)) 12 p (nI ((Tt T p).length + 1))) 7 e (nI p)) := by
  have hw' := Tis_w hw h
  have h30 := hw.n30
  obtain ⟨⟨he, hp, he0⟩, -, -, -, hi⟩ := id h
  have el' : Tls T true p = Tt T p := if_pos rfl
  rw [el'] at hi
  obtain ⟨s1, s2⟩ := s
  obtain ⟨a13, a6, a7, a8, a10, a12, a9, a11, a0, a4⟩ := rt
  have o : ∀ f, f ≠ 11 → f ≠ 12 → f ≠ 7 → (up (up (up τ 11 (30 * p + i) (nI e)) 12 p (nI ((Tt T p).length + 1))) 7 e (nI p)).1 f = σ.1 f := fun f h1 h2 h3 => by rw [up_o h3, up_o h2, up_o h1, s1.1 f (by simp [h1])]
  have oU : ∀ x, x < 30 → (up (up (up τ 11 (30 * p + i) (nI e)) 12 p (nI ((Tt T p).length + 1))) 7 e (nI p)).1 7 x = qqO (Th (Tis T true e p i) x) := fun x hx => by
    rw [up_s, Tis_h]
    by_cases c : x = e
    · rw [if_pos c, if_pos ⟨c, rfl⟩]; rfl
    · rw [if_neg c, if_neg (fun z => c z.1), up_o (by decide), up_o (by decide), s1.1 7 (by decide)]; exact a7 x hx
  have oC : ∀ x, x < 30 → (up (up (up τ 11 (30 * p + i) (nI e)) 12 p (nI ((Tt T p).length + 1))) 7 e (nI p)).1 12 x = nI (Tt (Tis T true e p i) x).length := fun x hx => by
    rw [up_o (by decide), up_s, Tis_t]
    by_cases c : x = p
    · rw [if_pos c, if_pos ⟨c, rfl⟩, c, ins_len]
    · rw [if_neg c, if_neg (fun z => c z.1), up_o (by decide), s1.1 12 (by decide)]; exact a12 x hx
  have oF : ∀ q k x, (Tt (Tis T true e p i) q)[k]? = some x → (up (up (up τ 11 (30 * p + i) (nI e)) 12 p (nI ((Tt T p).length + 1))) 7 e (nI p)).1 11 (30 * q + k) = nI x := fun q k x hx => by
    rw [up_o (by decide), up_o (by decide)]
    rw [Tis_t] at hx
    by_cases c : q = p
    · rw [if_pos ⟨c, rfl⟩, c, ins_get _ _ _ _ hi] at hx
      rw [c]
      by_cases d : k < i
      · rw [if_pos d] at hx
        rw [up_sn (by omega), s2, if_neg (by omega)]; exact a11 p k x hx
      · rw [if_neg d] at hx
        by_cases f : k = i
        · rw [if_pos f] at hx
          cases hx
          rw [f, up_ss]
        · rw [if_neg f] at hx
          have kl : k - 1 < (Tt T p).length := (List.getElem?_eq_some_iff.mp hx).1
          rw [up_sn (by omega), s2, if_pos (by omega), show 30 * p + k - 1 = 30 * p + (k - 1) by omega]; exact a11 p (k - 1) x hx
    · rw [if_neg (fun z => c z.1)] at hx
      have kl : k < (Tt T q).length := (List.getElem?_eq_some_iff.mp hx).1
      have k30 := hw.tlen q
      have l30 : (Tt T p).length < 30 := by
        have := hw'.tlen p
        rw [Tis_t, if_pos ⟨rfl, rfl⟩, ins_len] at this
        have h9 : (Tt T p).length + 1 ≤ Tn T := this
        omega
      rw [up_sn (by omega), s2, if_neg (by omega)]; exact a11 q k x hx
  refine ⟨(s1.2 13 (by simp)).trans a13, fun x hx => by rw [o 6 (by decide) (by decide) (by decide), Tis_p, if_neg (fun z => by cases z.2)]; exact a6 x hx, oU, fun x hx => by rw [o 8 (by decide) (by decide) (by decide)]; exact a8 x hx, fun x hx => by rw [o 10 (by decide) (by decide) (by decide), Tis_c, if_neg (fun z => by cases z.2)]; exact a10 x hx, oC, fun q k x hx => by rw [o 9 (by decide) (by decide) (by decide)]; rw [Tis_c, if_neg (fun z => by cases z.2)] at hx; exact a9 q k x hx, oF, fun x hx => by rw [o 0 (by decide) (by decide) (by decide)]; exact a0 x hx, fun x hx => by rw [o 4 (by decide) (by decide) (by decide)]; exact a4 x hx⟩
theorem put1_core (hk : k < 60000) (w : JW k T G L A ex K v nw9 S σ) (h : inH T true e p i) : sJU [2, 1] (JP (pf T G σ (P_in T G σ)) (k + 1)) (f_X11_putTop_69 (A 49 0) (nI i) (some (A 0 e)) (some (A 0 p)) 0 S) (f_putTop_80 (nI e) (nI p) (nI i) 0 σ) := by
  obtain ⟨⟨hw, hA, hin⟩, h49, ⟨hv, hn, h54⟩, j⟩ := id w
  have h30 := hw.n30
  have q := j.1.1
  have rt := j.1.2.2.2
  have hw' := Tis_w hw h
  have hno := Tls_no hw h
  obtain ⟨⟨he, hp, he0⟩, ⟨h1, h2⟩, hta, hts, hi⟩ := id h
  have el' : Tls T true p = Tt T p := if_pos rfl
  rw [el'] at hi hno
  have l30 : (Tt T p).length < 30 := by
    have := hw'.tlen p
    rw [Tis_t, if_pos ⟨rfl, rfl⟩, ins_len] at this
    have h9 : (Tt T p).length + 1 ≤ Tn T := this
    omega
  have j0 := j.scR (scR_sf σ 0)
  have x50 := q.1.2.1
  have x0 : ∀ y, y < Tn T → ex 0 y := fun y hy => q.1.E hy (by decide)
  have ml : ∀ y, y ∈ Tt T p → y < Tn T ∧ y ≠ e := fun y hy => ⟨(hw.tlt hy).1, fun z => hno (by rw [← z]; exact hy)⟩
  obtain ⟨S1, K1, e1, hA1, b1, f8, f9, f12, f13, f10, f11⟩ := c_insW (b := true) (p := p) (e := e) (pv := pvI (Tt T p) i) (nx := (Tt T p)[i]?) hA x50 (x0 e he) (x0 p hp) (fun y hy => by
    have : y ∈ Tt T p := by
      unfold pvI at hy
      by_cases c : i = 0
      · rw [if_pos c] at hy; cases hy
      · rw [if_neg c] at hy; exact List.mem_of_getElem? hy
    exact ⟨x0 y (ml y this).1, (ml y this).2⟩) (fun y hy => ⟨x0 y (ml y (List.mem_of_getElem? hy)).1, (ml y (List.mem_of_getElem? hy)).2⟩)
  have t1 : KT (Tis T true e p i) ex K1 := KT_ins hw h q.1 b1 f8 f9 (by rw [el']; exact f12) (by rw [el']; exact f13) (by rw [el']; exact f10) (by rw [el']; exact f11)
  obtain ⟨τ, r1, sh⟩ := r_sh1 (e := e) (p := p) (i := i) (by omega) ((Tt T p).length - i) 4000 (Tt T p).length (sf σ 81 0) (by omega) l30 (by omega)
  have rt2 := rt_in1 (σ := sf σ 81 0) hw h rt sh
  have sbT : sB xtL [] (sf σ 81 0) (up (up (up τ 11 (30 * p + i) (nI e)) 12 p (nI ((Tt T p).length + 1))) 7 e (nI p)) := (((sh.1.wd (fun f hf => by revert f; decide) (fun _ h => h)).up (by decide)).up (by decide)).up (by decide)
  have s55 : (up (up (up τ 11 (30 * p + i) (nI e)) 12 p (nI ((Tt T p).length + 1))) 7 e (nI p)).1 55 = (sf σ 81 0).1 55 := by rw [up_o (by decide), up_o (by decide), up_o (by decide), sh.1.1 55 (by decide)]
  have s4 : (up (up (up τ 11 (30 * p + i) (nI e)) 12 p (nI ((Tt T p).length + 1))) 7 e (nI p)).1 4 = (sf σ 81 0).1 4 := by rw [up_o (by decide), up_o (by decide), up_o (by decide), sh.1.1 4 (by decide)]
  obtain ⟨-, dd1, dd2⟩ := Tis_D hw h
  obtain ⟨S2, S3, K3, σ5, σ6, m1, m2, m3, m4, m5, m6, m7, m8, m9, m10, m11, m12, m13⟩ := mv_both hw hw' j0 rfl rfl dd1 dd2 he hA1 t1 b1 sbT s55 s4 rt2 (pp := none) (tt := some p) (tc := nI p) (fun y hy => by cases hy) (fun y hy => by cases hy; exact hp) (show nI p = nI p ∧ p < Tn T from ⟨rfl, hp⟩) (by omega)
  have runR : f_putTop_80 (nI e) (nI p) (nI i) 0 σ = some σ6 := by
    have c0 : (sf σ 81 0).1 12 p = nI (Tt T p).length := rt.2.2.2.2.2.1 p (by omega)
    have cτ : τ.1 12 p = nI (Tt T p).length := by rw [sh.1.1 12 (by decide)]; exact c0
    unfold f_putTop_80
    rw [r_holds0, qqx, if_pos rfl]
    dsimp only
    rw [rd_12 (by omega), qqx, c0, r1]
    unfold pt1R
    rw [show (30 : Int32) = nI 30 from rfl, pk_mul, nI_add, wr_11 (by omega), qqx, rd_12 (by omega), qqx, up_o (by decide), cτ, nI_1, wr_12 (by omega), qqx, wr_7 (by omega), qqx, m6, qqx, m7, qqx, show f_markPlace (qqO (Tnx (Tis T true e p i) e)) (-1) (nI p) σ5 = some σ6 from m9, qqx]
    rfl
  have runI : f_X10_insert (A 50 0) (some (A 0 e)) none (some (A 0 p)) (nI i) S = some S2 := by
    have g := c_ins31 q.1 hA (l := Tt T p) (i := i) (fun y hy => (ml y hy).1) (sibL_t hw p) hi (by omega) (some (A 0 e)) none (some (A 0 p)) i 4000 0 (by omega) (by omega)
    have g' : f_X10_insert_31 (A 50 0) 4000 (some (A 0 e)) none (some (A 0 p)) (nI i) none (el A (Tt T p).head?) 0 S = f_X10_insert_60 (A 50 0) (some (A 0 e)) none (some (A 0 p)) (el A (pvI (Tt T p) i)) (el A (Tt T p)[i]?) S := by
      rw [List.head?_eq_getElem?]; exact g
    have e1' : f_X10_insert_60 (A 50 0) (some (A 0 e)) none (some (A 0 p)) (el A (pvI (Tt T p) i)) (el A (Tt T p)[i]?) S = (f_X10_layOut (A 50 0) S1).bind (fun v8 => some v8) := e1
    unfold f_X10_insert f_X10_insert_26
    rw [if_pos rfl, if_neg (fun z => by cases z), q.1.g11 hA hp, qqx, g', e1', m1, qqx]
  unfold f_X11_putTop_69
  rw [c_refS0, qqx]
  show sJU _ _ ((gR S (some (A 49 0)) 11 0).bind _) _
  rw [q.2.1.trees hA, qqx, hA.Rc 50 10 x50 rfl, qqx, runI, qqx, m2, qqx, m4, qqx, show f_X11_markMove (A 49 0) (some (A 0 e)) (el A (Tnx (Tis T true e p i) e)) none (some (A 0 p)) S2 = some S3 from m5, qqx, runR]
  have f81 : σ6.2 81 = 0 := (m13.2 81 (by decide)).trans rfl
  have f54 : σ6.2 54 = σ.2 54 := (m13.2 54 (by decide)).trans rfl
  exact sJU.r f81 (fun n hn1 => ⟨Tis T true e p i, G, L, A, ex, K3, v + 1, nw9, ⟨⟨hw', m10.mono hn1, hin.kp m12 (fun i j => by unfold xtP; omega)⟩, h49, ⟨by omega, hn, f54.trans h54⟩, m11⟩, Or.inr ⟨f81, rfl, true, e, p, i, _, σ5, _, h, rfl, sbT, s55, s4, rt2, (by first | exact tcO_of hw' | (rw [show TH (Tis T true e p i) e = some p from TH_h hw' (by rw [Tis_h, if_pos ⟨rfl, rfl⟩])]; exact ⟨rfl, hp⟩)), m6, m9⟩⟩)
end PT1
