def Tdl (T : qqT) (b : Bool) (e p i : Nat) : qqT := (T.1, (fun x => if x = e then none else Tp T x), (fun x => if x = e then none else Th T x), (fun q => if q = p ∧ b = false then del i (Tc T q) else Tc T q), (fun q => if q = p ∧ b = true then del i (Tt T q) else Tt T q), Ts T, Tk T, Ta T)
def atH (T : qqT) (b : Bool) (e p i : Nat) : Prop := e < Tn T ∧ p < Tn T ∧ e ≠ 0 ∧ (b = false → Tp T e = some p ∧ Th T e = none) ∧ (b = true → Tp T e = none ∧ Th T e = some p) ∧ (Tls T b p)[i]? = some e
theorem ins_del {e : Nat} : ∀ (i : Nat) (l : List Nat), l[i]? = some e → ins e i (del i l) = l := by
  intro i
  induction i with
  | zero =>
    intro l h
    cases l with
    | nil => cases h
    | cons y l =>
      have hy : some y = some e := h
      cases hy
      rfl
  | succ i ih =>
    intro l h
    cases l with
    | nil => cases h
    | cons y l =>
      have h' : l[i]? = some e := h
      show y :: ins e i (del i l) = y :: l
      rw [ih l h']
section DL1
variable {T : qqT} {A : kA} {ex : Nat → Nat → Prop} {K K' K1 : kS} {S S' S1 : cS} {b : Bool} {e p i x q : Nat} {pv nx : Option Nat}
theorem Tdl_p : Tp (Tdl T b e p i) x = if x = e then none else Tp T x := rfl
theorem Tdl_h : Th (Tdl T b e p i) x = if x = e then none else Th T x := rfl
theorem Tdl_c : Tc (Tdl T b e p i) q = if q = p ∧ b = false then del i (Tc T q) else Tc T q := rfl
theorem Tdl_t : Tt (Tdl T b e p i) q = if q = p ∧ b = true then del i (Tt T q) else Tt T q := rfl
theorem atH_up (hw : Tw T) (h : atH T b e p i) : Tup T e = some p := by
  obtain ⟨-, -, -, h1, h2, -⟩ := h
  cases b with
  | false => exact Tup_p (h1 rfl).1
  | true => exact Tup_h hw (h2 rfl).2
theorem Tdl_w (hw : Tw T) (h : atH T b e p i) : Tw (Tdl T b e p i) := by
  obtain ⟨he, hp, he0, h1, h2, hl⟩ := h
  obtain ⟨a1, a2, a3, a4, a5, a6, a7, a8, a9, a10, rk, r1, r2⟩ := hw
  have lc : b = false → (Tc T p)[i]? = some e := fun z => by unfold Tls at hl; rw [z, if_neg (by decide)] at hl; exact hl
  have lt : b = true → (Tt T p)[i]? = some e := fun z => by unfold Tls at hl; rw [z, if_pos rfl] at hl; exact hl
  refine ⟨a1, fun x y hx => ?_, fun y x hx => ?_, fun x y hx => ?_, fun y x hx => ?_, fun y => ?_, fun y => ?_, fun x => ?_, fun x y hx => ?_, ?_, rk, fun x y hx => ?_, fun x y hx => ?_⟩
  · rw [Tdl_p] at hx
    by_cases c : x = e
    · rw [if_pos c] at hx; cases hx
    · rw [if_neg c] at hx
      obtain ⟨y1, y2, y3⟩ := a2 x y hx
      refine ⟨y1, y2, ?_⟩
      rw [Tdl_c]
      by_cases d : y = p ∧ b = false
      · rw [if_pos d]; exact (del_mem i _ (a6 y) (by rw [d.1]; exact lc d.2)).mpr ⟨y3, c⟩
      · rw [if_neg d]; exact y3
  · rw [Tdl_c] at hx
    rw [Tdl_p]
    by_cases d : y = p ∧ b = false
    · rw [if_pos d] at hx
      obtain ⟨m1, m2⟩ := (del_mem i _ (a6 y) (by rw [d.1]; exact lc d.2)).mp hx
      rw [if_neg m2]; exact a3 y x m1
    · rw [if_neg d] at hx
      have hx' := a3 y x hx
      by_cases c : x = e
      · exfalso
        cases b with
        | false => rw [c, (h1 rfl).1] at hx'; cases hx'; exact d ⟨rfl, rfl⟩
        | true => rw [c, (h2 rfl).1] at hx'; cases hx'
      · rw [if_neg c]; exact hx'
  · rw [Tdl_h] at hx
    by_cases c : x = e
    · rw [if_pos c] at hx; cases hx
    · rw [if_neg c] at hx
      obtain ⟨y1, y2, y3⟩ := a4 x y hx
      refine ⟨y1, y2, ?_⟩
      rw [Tdl_t]
      by_cases d : y = p ∧ b = true
      · rw [if_pos d]; exact (del_mem i _ (a7 y) (by rw [d.1]; exact lt d.2)).mpr ⟨y3, c⟩
      · rw [if_neg d]; exact y3
  · rw [Tdl_t] at hx
    rw [Tdl_h]
    by_cases d : y = p ∧ b = true
    · rw [if_pos d] at hx
      obtain ⟨m1, m2⟩ := (del_mem i _ (a7 y) (by rw [d.1]; exact lt d.2)).mp hx
      rw [if_neg m2]; exact a5 y x m1
    · rw [if_neg d] at hx
      have hx' := a5 y x hx
      by_cases c : x = e
      · exfalso
        cases b with
        | true => rw [c, (h2 rfl).2] at hx'; cases hx'; exact d ⟨rfl, rfl⟩
        | false => rw [c, (h1 rfl).2] at hx'; cases hx'
      · rw [if_neg c]; exact hx'
  · rw [Tdl_c]
    by_cases d : y = p ∧ b = false
    · rw [if_pos d]; exact del_nd i _ (a6 y) (by rw [d.1]; exact lc d.2)
    · rw [if_neg d]; exact a6 y
  · rw [Tdl_t]
    by_cases d : y = p ∧ b = true
    · rw [if_pos d]; exact del_nd i _ (a7 y) (by rw [d.1]; exact lt d.2)
    · rw [if_neg d]; exact a7 y
  · rw [Tdl_p, Tdl_h]
    by_cases c : x = e
    · rw [if_pos c]; exact Or.inl rfl
    · rw [if_neg c, if_neg c]; exact a8 x
  · rw [Tdl_h] at hx
    by_cases c : x = e
    · rw [if_pos c] at hx; cases hx
    · rw [if_neg c] at hx; exact a9 x y hx
  · rw [Tdl_p, Tdl_h, if_neg (fun z => he0 z.symm), if_neg (fun z => he0 z.symm)]
    exact a10
  · rw [Tdl_p] at hx
    by_cases c : x = e
    · rw [if_pos c] at hx; cases hx
    · rw [if_neg c] at hx; exact r1 x y hx
  · rw [Tdl_h] at hx
    by_cases c : x = e
    · rw [if_pos c] at hx; cases hx
    · rw [if_neg c] at hx; exact r2 x y hx
theorem Tdl_in (hw : Tw T) (h : atH T b e p i) : inH (Tdl T b e p i) b e p i := by
  have hw0 := Tdl_w hw h
  have hup := atH_up hw h
  obtain ⟨he, hp, he0, h1, h2, hl⟩ := id h
  obtain ⟨rk, hrk⟩ := hw.rkup
  have il := (List.getElem?_eq_some_iff.mp hl).1
  refine ⟨⟨he, hp, he0⟩, ⟨if_pos rfl, if_pos rfl⟩, ?_, fun z => hw.s (h2 z).2, ?_⟩
  · have up0 : ∀ x q, Tup (Tdl T b e p i) x = some q → x ≠ e ∧ Tup T x = some q := fun x q hq => by
      unfold Tup at hq ⊢
      rw [Tdl_p, Tdl_h] at hq
      by_cases c : x = e
      · rw [if_pos c, if_pos c] at hq; cases hq
      · rw [if_neg c, if_neg c] at hq; exact ⟨c, hq⟩
    have key : ∀ x, x < Tn T → TA (Tdl T b e p i) e x = true → rk e ≤ rk x := by
      intro x
      refine qqInd (st := Tup (Tdl T b e p i)) (μ := rk) (P := fun x => x < Tn T → TA (Tdl T b e p i) e x = true → rk e ≤ rk x) ?_ x
      intro x ih hx ht
      cases hu : Tup (Tdl T b e p i) x with
      | none =>
        rw [TA_eq hw0 hx, hu] at ht
        have := of_decide_eq_true ht
        rw [this]; exact Nat.le_refl _
      | some q =>
        obtain ⟨c, hu'⟩ := up0 x q hu
        have lt := hrk x q hu'
        rw [TA_u hw0 hx hu, decide_eq_false c, Bool.false_or] at ht
        have := ih q hu lt (hw.up hu').2 ht
        omega
    cases ht : TA (Tdl T b e p i) e p with
    | false => rfl
    | true =>
      have := key p hp ht
      have := hrk e p hup
      omega
  · unfold Tls at hl il ⊢
    cases b with
    | false =>
      rw [if_neg (by decide)] at hl il ⊢
      rw [Tdl_c, if_pos ⟨rfl, rfl⟩]
      have := del_len i (Tc T p) il
      omega
    | true =>
      rw [if_pos rfl] at hl il ⊢
      rw [Tdl_t, if_pos ⟨rfl, rfl⟩]
      have := del_len i (Tt T p) il
      omega
theorem Tis_dl (h : atH T b e p i) : Tis (Tdl T b e p i) b e p i = T := by
  obtain ⟨he, hp, he0, h1, h2, hl⟩ := h
  have e1 : Tp (Tis (Tdl T b e p i) b e p i) = Tp T := by
    funext x
    rw [Tis_p, Tdl_p]
    by_cases c : x = e
    · rw [c]
      cases b with
      | false => rw [if_pos ⟨rfl, rfl⟩]; exact (h1 rfl).1.symm
      | true => rw [if_neg (fun z => by cases z.2), if_pos rfl]; exact (h2 rfl).1.symm
    · rw [if_neg (fun z => c z.1), if_neg c]
  have e2 : Th (Tis (Tdl T b e p i) b e p i) = Th T := by
    funext x
    rw [Tis_h, Tdl_h]
    by_cases c : x = e
    · rw [c]
      cases b with
      | true => rw [if_pos ⟨rfl, rfl⟩]; exact (h2 rfl).2.symm
      | false => rw [if_neg (fun z => by cases z.2), if_pos rfl]; exact (h1 rfl).2.symm
    · rw [if_neg (fun z => c z.1), if_neg c]
  have e3 : Tc (Tis (Tdl T b e p i) b e p i) = Tc T := by
    funext q
    rw [Tis_c, Tdl_c]
    by_cases c : q = p ∧ b = false
    · rw [if_pos c, if_pos c, c.1]
      unfold Tls at hl
      rw [c.2, if_neg (by decide)] at hl
      exact ins_del i _ hl
    · rw [if_neg c, if_neg c]
  have e4 : Tt (Tis (Tdl T b e p i) b e p i) = Tt T := by
    funext q
    rw [Tis_t, Tdl_t]
    by_cases c : q = p ∧ b = true
    · rw [if_pos c, if_pos c, c.1]
      unfold Tls at hl
      rw [c.2, if_pos rfl] at hl
      exact ins_del i _ hl
    · rw [if_neg c, if_neg c]
  show (T.1, Tp (Tis (Tdl T b e p i) b e p i), Th (Tis (Tdl T b e p i) b e p i), Tc (Tis (Tdl T b e p i) b e p i), Tt (Tis (Tdl T b e p i) b e p i), Ts T, Tk T, Ta T) = T
  rw [e1, e2, e3, e4]
theorem c_remove (hA : KA A ex K S) (x50 : ex 50 0) (he : ex 0 e) (hp : ex 0 p) (hpv : ∀ y, pv = some y → ex 0 y ∧ y ≠ e) (hnx : ∀ y, nx = some y → ex 0 y ∧ y ≠ e) (h8 : K.2 0 e 8 = ro 0 (Pp9 b p)) (h9 : K.2 0 e 9 = ro 0 (Ph9 b p)) (h13 : K.2 0 e 13 = ro 0 pv) (h12 : K.2 0 e 12 = ro 0 nx) : ∃ S1 K1, f_X10_remove (A 50 0) (some (A 0 e)) S = (f_X10_layOut (A 50 0) S1).bind (fun v10 => some v10) ∧ KA A ex K1 S1 ∧ kB F3 lkR K K1 ∧ (∀ x, K1.2 0 x 8 = if x = e then none else K.2 0 x 8) ∧ (∀ x, K1.2 0 x 9 = if x = e then none else K.2 0 x 9) ∧ (∀ x, K1.2 0 x 12 = if x = e then none else if pv = some x then ro 0 nx else K.2 0 x 12) ∧ (∀ x, K1.2 0 x 13 = if x = e then none else if nx = some x then ro 0 pv else K.2 0 x 13) ∧ (∀ x, K1.2 0 x 10 = if pv = none ∧ b = false ∧ x = p then ro 0 nx else K.2 0 x 10) ∧ ∀ x, K1.2 0 x 11 = if pv = none ∧ b = true ∧ x = p then ro 0 nx else K.2 0 x 11 := by
  obtain ⟨S1, K1, e1, h1, b1, f8, f13, f12, f10, f11⟩ := c_link (b := b) (p := p) (e := e) (pv := pv) (nx := nx) hA he hp (fun y hy => (hpv y hy).1) (fun y hy => (hnx y hy).1) h8 h9
  obtain ⟨S2, e2, h2⟩ := h1.PR (k := 0) (i := e) (t := 3) (j := 8) he rfl (by decide) none (fun r z => by cases z)
  obtain ⟨S3, e3, h3⟩ := h2.PR (k := 0) (i := e) (t := 3) (j := 9) he rfl (by decide) none (fun r z => by cases z)
  obtain ⟨S4, e4, h4⟩ := h3.PR (k := 0) (i := e) (t := 3) (j := 12) he rfl (by decide) none (fun r z => by cases z)
  obtain ⟨S5, e5, h5⟩ := h4.PR (k := 0) (i := e) (t := 3) (j := 13) he rfl (by decide) none (fun r z => by cases z)
  have g13 : gR S (some (A 0 e)) 3 13 = some (el A pv) := by rw [hA.R 0 3 he rfl, h13, el_kp]
  have g12 : gR S (some (A 0 e)) 3 12 = some (el A nx) := by rw [hA.R 0 3 he rfl, h12, el_kp]
  have e2' : pR S1 (some (A 0 e)) 3 8 none = some S2 := e2
  have e3' : pR S2 (some (A 0 e)) 3 9 none = some S3 := e3
  have e4' : pR S3 (some (A 0 e)) 3 12 none = some S4 := e4
  have e5' : pR S4 (some (A 0 e)) 3 13 none = some S5 := e5
  have fR : ∀ x j, x ≠ e ∨ (j ≠ 8 ∧ j ≠ 9 ∧ j ≠ 12 ∧ j ≠ 13) → (kwR (kwR (kwR (kwR K1 0 e 8 none) 0 e 9 none) 0 e 12 none) 0 e 13 none).2 0 x j = K1.2 0 x j := fun x j hx => by
    rw [kwR_row (by omega), kwR_row (by omega), kwR_row (by omega), kwR_row (by omega)]
  refine ⟨S5, _, ?_, h5, (((b1.R ⟨rfl, by decide, by decide⟩).R ⟨rfl, by decide, by decide⟩).R ⟨rfl, by decide, by decide⟩).R ⟨rfl, by decide, by decide⟩, fun x => ?_, fun x => ?_, fun x => ?_, fun x => ?_, fun x => ?_, fun x => ?_⟩
  · unfold f_X10_remove
    rw [g13, qqx, g12, qqx, hA.Rc 50 10 x50 rfl, qqx, e1, qqx, e2', qqx, e3', qqx, e4', qqx, e5', qqx, h5.Rc 50 10 x50 rfl, qqx]
  · by_cases c : x = e
    · rw [if_pos c, c, kwR_row (by omega), kwR_row (by omega), kwR_row (by omega), kwR_ss]
    · rw [if_neg c, fR x 8 (Or.inl c), (f8 x).1]
  · by_cases c : x = e
    · rw [if_pos c, c, kwR_row (by omega), kwR_row (by omega), kwR_ss]
    · rw [if_neg c, fR x 9 (Or.inl c), (f8 x).2]
  · by_cases c : x = e
    · rw [if_pos c, c, kwR_row (by omega), kwR_ss]
    · rw [if_neg c, fR x 12 (Or.inl c), f12]
  · by_cases c : x = e
    · rw [if_pos c, c, kwR_ss]
    · rw [if_neg c, fR x 13 (Or.inl c), f13]
  · rw [fR x 10 (Or.inr (by decide)), f10]
  · rw [fR x 11 (Or.inr (by decide)), f11]
theorem KT_del (hw : Tw T) (h : inH T b e p i) (t : KT (Tis T b e p i) ex K) (fr : kB F3 lkR K K1) (f8 : ∀ x, K1.2 0 x 8 = if x = e then none else K.2 0 x 8) (f9 : ∀ x, K1.2 0 x 9 = if x = e then none else K.2 0 x 9) (f12 : ∀ x, K1.2 0 x 12 = if x = e then none else if pvI (Tls T b p) i = some x then ro 0 (Tls T b p)[i]? else K.2 0 x 12) (f13 : ∀ x, K1.2 0 x 13 = if x = e then none else if (Tls T b p)[i]? = some x then ro 0 (pvI (Tls T b p) i) else K.2 0 x 13) (f10 : ∀ x, K1.2 0 x 10 = if pvI (Tls T b p) i = none ∧ b = false ∧ x = p then ro 0 (Tls T b p)[i]? else K.2 0 x 10) (f11 : ∀ x, K1.2 0 x 11 = if pvI (Tls T b p) i = none ∧ b = true ∧ x = p then ro 0 (Tls T b p)[i]? else K.2 0 x 11) : KT T ex K1 := by
  have oI : ∀ k x j, K1.1 k x j = K.1 k x j := fun k x j => fr.1 _ _ _ (fun z => z)
  have oR : ∀ k x j, ¬ lkR k x j → K1.2 k x j = K.2 k x j := fr.2
  obtain ⟨⟨n1, n2⟩, n3⟩ := Tis_nx hw h
  obtain ⟨s1, s2, s3⟩ := Tis_sb hw h
  obtain ⟨⟨he, hp, he0⟩, ⟨h1, h2⟩, hta, hts, hi⟩ := id h
  have sl : sibL T (Tls T b p) := by
    unfold Tls
    cases b with
    | true => rw [if_pos rfl]; exact sibL_t hw p
    | false => rw [if_neg (by decide)]; exact sibL_c hw p
  have pz : pvI (Tls T b p) i = none → i = 0 := fun z => by
    unfold pvI at z
    by_cases c : i = 0
    · exact c
    · rw [if_neg c, List.getElem?_eq_none_iff] at z; omega
  refine ⟨fun x hx => ?_, ?_⟩
  · obtain ⟨y1, y2, y3, y4, y5, y6, y7, y8, y9, y10, y11, y12, y13, y14⟩ := t.1 x hx
    refine ⟨y1, by rw [oI]; exact y2, by rw [oI]; exact y3, by rw [oI]; exact y4, by rw [oI]; exact y5, ?_, ?_, ?_, ?_, ?_, ?_, by rw [oR _ _ _ (by unfold lkR; omega)]; exact y12, by rw [oR _ _ _ (by unfold lkR; omega)]; exact y13, by rw [oR _ _ _ (by unfold lkR; omega)]; exact y14⟩
    · rw [f8]
      by_cases c : x = e
      · rw [if_pos c, c, h1]; rfl
      · rw [if_neg c, y6, Tis_p, if_neg (fun z => c z.1)]
    · rw [f9]
      by_cases c : x = e
      · rw [if_pos c, c, h2]; rfl
      · rw [if_neg c, y7, Tis_h, if_neg (fun z => c z.1)]
    · rw [f10]
      by_cases c : x = p ∧ b = false
      · have el' : Tls T b p = Tc T p := by unfold Tls; rw [c.2]; exact if_neg (by decide)
        rw [el'] at hi pz ⊢
        rw [Tis_c, if_pos c, c.1, ins_hd _ hi] at y8
        rw [c.1]
        by_cases d : pvI (Tc T p) i = none
        · rw [if_pos ⟨d, c.2, rfl⟩, pz d, List.head?_eq_getElem?]
        · rw [if_neg (fun z => d z.1), y8, if_neg d]
      · rw [if_neg (fun z => c ⟨z.2.2, z.2.1⟩), y8, Tis_c, if_neg c]
    · rw [f11]
      by_cases c : x = p ∧ b = true
      · have el' : Tls T b p = Tt T p := by unfold Tls; rw [c.2]; exact if_pos rfl
        rw [el'] at hi pz ⊢
        rw [Tis_t, if_pos c, c.1, ins_hd _ hi] at y9
        rw [c.1]
        by_cases d : pvI (Tt T p) i = none
        · rw [if_pos ⟨d, c.2, rfl⟩, pz d, List.head?_eq_getElem?]
        · rw [if_neg (fun z => d z.1), y9, if_neg d]
      · rw [if_neg (fun z => c ⟨z.2.2, z.2.1⟩), y9, Tis_t, if_neg c]
    · rw [f12]
      by_cases c : x = e
      · rw [if_pos c, c, Tnx_n hw h1 h2]; rfl
      · rw [if_neg c]
        by_cases d : pvI (Tls T b p) i = some x
        · rw [if_pos d]
          have i0 : i ≠ 0 := fun z => by
            unfold pvI at d
            rw [if_pos z] at d; cases d
          have d' : (Tls T b p)[i - 1]? = some x := by
            unfold pvI at d
            rw [if_neg i0] at d; exact d
          have := sl _ x d'
          rw [this, show i - 1 + 1 = i by omega]
        · rw [if_neg d, y10, (n3 x hx c).1, if_neg d]
    · rw [f13]
      by_cases c : x = e
      · rw [if_pos c, c, show Tpv T e = none from (Tpv_ix hw).mpr (Tix_n hw h1 h2)]; rfl
      · rw [if_neg c]
        by_cases d : (Tls T b p)[i]? = some x
        · rw [if_pos d]
          have xm := List.mem_of_getElem? d
          have ix : Tix T x = i := Tix_at hw (e := x) (by rw [s3 x xm]; exact d)
          have : Tpv T x = pvI (Tls T b p) i := by
            unfold Tpv pvI
            rw [ix, s3 x xm]
          rw [this]
        · rw [if_neg d, y11, (n3 x hx c).2, if_neg d]
  · obtain ⟨y1, y2, y3, y4, y5, y6⟩ := t.2
    exact ⟨y1, y2, by rw [oI]; exact y3, by rw [oR _ _ _ (by unfold lkR; omega)]; exact y4, by rw [oR _ _ _ (by unfold lkR; omega)]; exact y5, fun x hx => by rw [oR _ _ _ (by unfold lkR; omega)]; exact y6 x hx⟩
end DL1
