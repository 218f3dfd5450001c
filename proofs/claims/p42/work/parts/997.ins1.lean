def Tls (T : qqT) (b : Bool) (p : Nat) : List Nat := if b = true then Tt T p else Tc T p
def Tis (T : qqT) (b : Bool) (e p i : Nat) : qqT := (T.1, (fun x => if x = e ∧ b = false then some p else Tp T x), (fun x => if x = e ∧ b = true then some p else Th T x), (fun q => if q = p ∧ b = false then ins e i (Tc T q) else Tc T q), (fun q => if q = p ∧ b = true then ins e i (Tt T q) else Tt T q), Ts T, Tk T, Ta T)
def inH (T : qqT) (b : Bool) (e p i : Nat) : Prop := (e < Tn T ∧ p < Tn T ∧ e ≠ 0) ∧ (Tp T e = none ∧ Th T e = none) ∧ TA T e p = false ∧ (b = true → Ts T p = true) ∧ i ≤ (Tls T b p).length
section IN1
variable {T : qqT} {b : Bool} {e p i x q : Nat}
theorem Tis_p : Tp (Tis T b e p i) x = if x = e ∧ b = false then some p else Tp T x := rfl
theorem Tis_h : Th (Tis T b e p i) x = if x = e ∧ b = true then some p else Th T x := rfl
theorem Tis_c : Tc (Tis T b e p i) q = if q = p ∧ b = false then ins e i (Tc T q) else Tc T q := rfl
theorem Tis_t : Tt (Tis T b e p i) q = if q = p ∧ b = true then ins e i (Tt T q) else Tt T q := rfl
theorem Tls_no (hw : Tw T) (h : inH T b e p i) : e ∉ Tls T b p := by
  obtain ⟨-, ⟨h1, h2⟩, -⟩ := h
  unfold Tls
  cases b with
  | true => rw [if_pos rfl]; exact fun z => by have := hw.t z; rw [h2] at this; cases this
  | false => rw [if_neg (by decide)]; exact fun z => by have := hw.c z; rw [h1] at this; cases this
theorem Tls_nd (hw : Tw T) : (Tls T b p).Nodup := by
  unfold Tls
  cases b with
  | true => rw [if_pos rfl]; exact hw.td p
  | false => rw [if_neg (by decide)]; exact hw.cd p
theorem Tis_up (h : inH T b e p i) : Tup (Tis T b e p i) x = if x = e then some p else Tup T x := by
  obtain ⟨-, ⟨h1, h2⟩, -⟩ := h
  unfold Tup
  rw [Tis_p, Tis_h]
  by_cases c : x = e
  · subst c
    rw [if_pos rfl]
    cases b with
    | true => rw [if_neg (fun z => by cases z.2), if_pos ⟨rfl, rfl⟩, h1]
    | false => rw [if_pos ⟨rfl, rfl⟩]
  · rw [if_neg (fun z => c z.1), if_neg (fun z => c z.1), if_neg c]
theorem Tis_w (hw : Tw T) (h : inH T b e p i) : Tw (Tis T b e p i) := by
  have hno := Tls_no hw h
  have hw0 := hw
  obtain ⟨⟨he, hp, he0⟩, ⟨h1, h2⟩, hta, hts, hi⟩ := id h
  obtain ⟨a1, a2, a3, a4, a5, a6, a7, a8, a9, a10, rk, r1, r2⟩ := hw
  refine ⟨a1, fun x y hx => ?_, fun y x hx => ?_, fun x y hx => ?_, fun y x hx => ?_, fun y => ?_, fun y => ?_, fun x => ?_, fun x y hx => ?_, ?_, fun x => if TA T e x = true then rk x + (rk p + 1) else rk x, fun x y hx => ?_, fun x y hx => ?_⟩
  · rw [Tis_p] at hx
    rw [Tis_c]
    by_cases c : x = e ∧ b = false
    · rw [if_pos c] at hx
      cases hx
      rw [if_pos ⟨rfl, c.2⟩]
      exact ⟨by rw [c.1]; exact he, hp, (ins_mem i _).mpr (Or.inl c.1)⟩
    · rw [if_neg c] at hx
      obtain ⟨y1, y2, y3⟩ := a2 x y hx
      refine ⟨y1, y2, ?_⟩
      by_cases d : y = p ∧ b = false
      · rw [if_pos d]; exact (ins_mem i _).mpr (Or.inr y3)
      · rw [if_neg d]; exact y3
  · rw [Tis_c] at hx
    rw [Tis_p]
    by_cases d : y = p ∧ b = false
    · rw [if_pos d] at hx
      rcases (ins_mem i _).mp hx with z | z
      · rw [if_pos ⟨z, d.2⟩, d.1]
      · rw [if_neg (fun w => by have := a3 y x z; rw [w.1, h1] at this; cases this)]; exact a3 y x z
    · rw [if_neg d] at hx
      rw [if_neg (fun w => by have := a3 y x hx; rw [w.1, h1] at this; cases this)]; exact a3 y x hx
  · rw [Tis_h] at hx
    rw [Tis_t]
    by_cases c : x = e ∧ b = true
    · rw [if_pos c] at hx
      cases hx
      rw [if_pos ⟨rfl, c.2⟩]
      exact ⟨by rw [c.1]; exact he, hp, (ins_mem i _).mpr (Or.inl c.1)⟩
    · rw [if_neg c] at hx
      obtain ⟨y1, y2, y3⟩ := a4 x y hx
      refine ⟨y1, y2, ?_⟩
      by_cases d : y = p ∧ b = true
      · rw [if_pos d]; exact (ins_mem i _).mpr (Or.inr y3)
      · rw [if_neg d]; exact y3
  · rw [Tis_t] at hx
    rw [Tis_h]
    by_cases d : y = p ∧ b = true
    · rw [if_pos d] at hx
      rcases (ins_mem i _).mp hx with z | z
      · rw [if_pos ⟨z, d.2⟩, d.1]
      · rw [if_neg (fun w => by have := a5 y x z; rw [w.1, h2] at this; cases this)]; exact a5 y x z
    · rw [if_neg d] at hx
      rw [if_neg (fun w => by have := a5 y x hx; rw [w.1, h2] at this; cases this)]; exact a5 y x hx
  · rw [Tis_c]
    by_cases d : y = p ∧ b = false
    · rw [if_pos d]
      refine ins_nd i _ (a6 y) (fun z => ?_)
      have := a3 y e z
      rw [h1] at this; cases this
    · rw [if_neg d]; exact a6 y
  · rw [Tis_t]
    by_cases d : y = p ∧ b = true
    · rw [if_pos d]
      refine ins_nd i _ (a7 y) (fun z => ?_)
      have := a5 y e z
      rw [h2] at this; cases this
    · rw [if_neg d]; exact a7 y
  · rw [Tis_p, Tis_h]
    by_cases c : x = e
    · cases b with
      | true => exact Or.inl ((if_neg (fun z => by cases z.2)).trans (by rw [c]; exact h1))
      | false => exact Or.inr ((if_neg (fun z => by cases z.2)).trans (by rw [c]; exact h2))
    · rw [if_neg (fun z => c z.1), if_neg (fun z => c z.1)]; exact a8 x
  · rw [Tis_h] at hx
    by_cases c : x = e ∧ b = true
    · rw [if_pos c] at hx
      cases hx
      exact hts c.2
    · rw [if_neg c] at hx
      exact a9 x y hx
  · rw [Tis_p, Tis_h, if_neg (fun z => he0 z.1.symm), if_neg (fun z => he0 z.1.symm)]
    exact a10
  · have hu : Tup (Tis T b e p i) x = some y := Tup_p hx
    rw [Tis_up h] at hu
    show (if TA T e y = true then rk y + (rk p + 1) else rk y) < (if TA T e x = true then rk x + (rk p + 1) else rk x)
    by_cases c : x = e
    · rw [if_pos c] at hu
      cases hu
      rw [hta, if_neg (by decide), c, TA_s hw0 he, if_pos rfl]
      omega
    · rw [if_neg c] at hu
      have lt : rk y < rk x := (Tup_cases hw0 hu).elim (r1 x y) (fun z => r2 x y z.2)
      rw [TA_u hw0 (hw0.up hu).1 hu, decide_eq_false c, Bool.false_or]
      by_cases d : TA T e y = true
      · rw [if_pos d, if_pos d]; omega
      · rw [if_neg d, if_neg d]; exact lt
  · have hpn : Tp (Tis T b e p i) x = none := by
      rw [Tis_h] at hx
      rw [Tis_p]
      by_cases c : x = e
      · cases b with
        | true => rw [if_neg (fun z => by cases z.2), c]; exact h1
        | false =>
          rw [if_neg (fun z => by cases z.2), c, h2] at hx
          cases hx
      · rw [if_neg (fun z => c z.1)] at hx ⊢
        exact (a8 x).resolve_right (fun z => by rw [hx] at z; cases z)
    have hu : Tup (Tis T b e p i) x = some y := by
      unfold Tup
      rw [hpn]; exact hx
    rw [Tis_up h] at hu
    show (if TA T e y = true then rk y + (rk p + 1) else rk y) < (if TA T e x = true then rk x + (rk p + 1) else rk x)
    by_cases c : x = e
    · rw [if_pos c] at hu
      cases hu
      rw [hta, if_neg (by decide), c, TA_s hw0 he, if_pos rfl]
      omega
    · rw [if_neg c] at hu
      have lt : rk y < rk x := (Tup_cases hw0 hu).elim (r1 x y) (fun z => r2 x y z.2)
      rw [TA_u hw0 (hw0.up hu).1 hu, decide_eq_false c, Bool.false_or]
      by_cases d : TA T e y = true
      · rw [if_pos d, if_pos d]; omega
      · rw [if_neg d, if_neg d]; exact lt
theorem Tis_D (hw : Tw T) (h : inH T b e p i) : TD T e = false ∧ (∀ x, x < Tn T → TD T x = true → TD (Tis T b e p i) x = true) ∧ ∀ x, x < Tn T → TD (Tis T b e p i) x = true → TD T x = false → x = e ∨ TB (Tis T b e p i) e x = true := by
  have hw' := Tis_w hw h
  obtain ⟨⟨he, hp, he0⟩, ⟨h1, h2⟩, hta, hts, hi⟩ := id h
  have ue : Tup T e = none := Tup_none h1 h2
  have de : TD T e = false := by rw [TD_n hw he ue]; exact decide_eq_false he0
  obtain ⟨rk, hrk⟩ := hw.rkup
  obtain ⟨rk', hrk'⟩ := hw'.rkup
  refine ⟨de, fun x => ?_, fun x => ?_⟩
  · refine qqInd (st := Tup T) (μ := rk) (P := fun x => x < Tn T → TD T x = true → TD (Tis T b e p i) x = true) ?_ x
    intro x ih hx hd
    have hxe : x ≠ e := fun z => by rw [z, de] at hd; cases hd
    cases hu : Tup T x with
    | none =>
      rw [TD_n hw hx hu] at hd
      rw [TD_n hw' hx (by rw [Tis_up h, if_neg hxe]; exact hu)]; exact hd
    | some q =>
      rw [TD_up hw hu] at hd
      rw [TD_up hw' (q := q) (by rw [Tis_up h, if_neg hxe]; exact hu)]
      exact ih q hu (hrk x q hu) (hw.up hu).2 hd
  · refine qqInd (st := Tup (Tis T b e p i)) (μ := rk') (P := fun x => x < Tn T → TD (Tis T b e p i) x = true → TD T x = false → x = e ∨ TB (Tis T b e p i) e x = true) ?_ x
    intro x ih hx hd hd0
    by_cases hxe : x = e
    · exact Or.inl hxe
    · refine Or.inr ?_
      cases hu : Tup T x with
      | none =>
        rw [TD_n hw hx hu] at hd0
        rw [TD_n hw' hx (by rw [Tis_up h, if_neg hxe]; exact hu)] at hd
        rw [hd] at hd0; cases hd0
      | some q =>
        have hu' : Tup (Tis T b e p i) x = some q := by rw [Tis_up h, if_neg hxe]; exact hu
        rw [TD_up hw hu] at hd0
        rw [TD_up hw' hu'] at hd
        have tb := TB_up hw' x hx q hu'
        rcases ih q hu' (hrk' x q hu') (hw.up hu).2 hd hd0 with z | z
        · rw [z] at tb; exact tb
        · exact TB_tr hw' z x hx tb
def pvI (l : List Nat) (i : Nat) : Option Nat := if i = 0 then none else l[i - 1]?
theorem Tis_sb (hw : Tw T) (h : inH T b e p i) : (∀ x, x = e ∨ x ∈ Tls T b p → Tsb (Tis T b e p i) x = ins e i (Tls T b p)) ∧ (∀ x, x ≠ e → x ∉ Tls T b p → Tsb (Tis T b e p i) x = Tsb T x) ∧ ∀ x, x ∈ Tls T b p → Tsb T x = Tls T b p := by
  obtain ⟨⟨he, hp, he0⟩, ⟨h1, h2⟩, hta, hts, hi⟩ := id h
  refine ⟨fun x hx => ?_, fun x hxe hx => ?_, fun x hx => ?_⟩
  · unfold Tsb
    cases b with
    | false =>
      have e1 : Tls T false p = Tc T p := if_neg (by decide)
      rw [e1] at hx ⊢
      have e2 : Tp (Tis T false e p i) x = some p := by
        rw [Tis_p]
        rcases hx with z | z
        · rw [if_pos ⟨z, rfl⟩]
        · by_cases c : x = e
          · rw [if_pos ⟨c, rfl⟩]
          · rw [if_neg (fun w => c w.1)]; exact hw.c z
      rw [e2]
      show Tc (Tis T false e p i) p = _
      rw [Tis_c, if_pos ⟨rfl, rfl⟩]
    | true =>
      have e1 : Tls T true p = Tt T p := if_pos rfl
      rw [e1] at hx ⊢
      have e3 : Tp (Tis T true e p i) x = none := by
        rw [Tis_p, if_neg (fun z => by cases z.2)]
        rcases hx with z | z
        · rw [z]; exact h1
        · exact (hw.ph x).resolve_right (fun w => by rw [hw.t z] at w; cases w)
      have e2 : Th (Tis T true e p i) x = some p := by
        rw [Tis_h]
        rcases hx with z | z
        · rw [if_pos ⟨z, rfl⟩]
        · by_cases c : x = e
          · rw [if_pos ⟨c, rfl⟩]
          · rw [if_neg (fun w => c w.1)]; exact hw.t z
      rw [e3, e2]
      show Tt (Tis T true e p i) p = _
      rw [Tis_t, if_pos ⟨rfl, rfl⟩]
  · unfold Tsb
    rw [Tis_p, Tis_h, if_neg (fun z => hxe z.1), if_neg (fun z => hxe z.1)]
    cases hq : Tp T x with
    | some q =>
      show Tc (Tis T b e p i) q = Tc T q
      rw [Tis_c, if_neg]
      rintro ⟨z1, z2⟩
      apply hx
      unfold Tls
      rw [z2, if_neg (by decide), ← z1]
      exact (hw.p hq).2.2
    | none =>
      cases hr : Th T x with
      | some q =>
        show Tt (Tis T b e p i) q = Tt T q
        rw [Tis_t, if_neg]
        rintro ⟨z1, z2⟩
        apply hx
        unfold Tls
        rw [z2, if_pos rfl, ← z1]
        exact (hw.h hr).2.2
      | none => rfl
  · unfold Tls at hx ⊢
    cases b with
    | false =>
      rw [if_neg (by decide)] at hx ⊢
      exact Tsb_p (hw.c hx)
    | true =>
      rw [if_pos rfl] at hx ⊢
      exact Tsb_h hw (hw.t hx)
theorem Tis_nx (hw : Tw T) (h : inH T b e p i) : (Tnx (Tis T b e p i) e = (Tls T b p)[i]? ∧ Tpv (Tis T b e p i) e = pvI (Tls T b p) i) ∧ ∀ x, x < Tn T → x ≠ e → (Tnx (Tis T b e p i) x = if pvI (Tls T b p) i = some x then some e else Tnx T x) ∧ (Tpv (Tis T b e p i) x = if (Tls T b p)[i]? = some x then some e else Tpv T x) := by
  have hw' := Tis_w hw h
  obtain ⟨s1, s2, s3⟩ := Tis_sb hw h
  have hno := Tls_no hw h
  have hnd := Tls_nd (b := b) (p := p) hw
  have hi := h.2.2.2.2
  generalize hl : Tls T b p = l at *
  have g := fun j => ins_get e i l j hi
  refine ⟨?_, fun x hx hxe => ?_⟩
  · have ix : Tix (Tis T b e p i) e = i := Tix_at hw' (e := e) (by rw [s1 e (Or.inl rfl), g, if_neg (by omega), if_pos rfl])
    refine ⟨?_, ?_⟩
    · unfold Tnx
      rw [ix, s1 e (Or.inl rfl), g, if_neg (by omega), if_neg (by omega)]; rfl
    · unfold Tpv pvI
      rw [ix, s1 e (Or.inl rfl)]
      by_cases c : i = 0
      · rw [if_pos c, if_pos c]
      · rw [if_neg c, if_neg c, g, if_pos (by omega)]
  · by_cases hm : x ∈ l
    · obtain ⟨j, hj⟩ := List.getElem?_of_mem hm
      have jl : j < l.length := (List.getElem?_eq_some_iff.mp hj).1
      have inj : ∀ k, l[k]? = some x → k = j := fun k hk => (Tix_at hw (e := x) (by rw [s3 x hm]; exact hk)).symm.trans (Tix_at hw (e := x) (by rw [s3 x hm]; exact hj))
      have ix0 : Tix T x = j := Tix_at hw (e := x) (by rw [s3 x hm]; exact hj)
      have n0 : Tnx T x = l[j + 1]? := by unfold Tnx; rw [ix0, s3 x hm]
      have p0 : Tpv T x = if j = 0 then none else l[j - 1]? := by unfold Tpv; rw [ix0, s3 x hm]
      have c1 : (pvI l i = some x) ↔ j + 1 = i := by
        unfold pvI
        by_cases c : i = 0
        · rw [if_pos c]; exact ⟨(fun z => by cases z), (fun z => by omega)⟩
        · rw [if_neg c]
          constructor
          · intro z; have := inj _ z; omega
          · intro z; rw [show i - 1 = j by omega]; exact hj
      have c2 : (l[i]? = some x) ↔ j = i := ⟨fun z => (inj _ z).symm, fun z => by rw [← z]; exact hj⟩
      by_cases c : j < i
      · have ix : Tix (Tis T b e p i) x = j := Tix_at hw' (e := x) (by rw [s1 x (Or.inr hm), g, if_pos c]; exact hj)
        refine ⟨?_, ?_⟩
        · unfold Tnx
          rw [ix, s1 x (Or.inr hm), g]
          by_cases d : j + 1 = i
          · rw [if_neg (by omega), if_pos d, if_pos (c1.mpr d)]
          · rw [if_pos (by omega), if_neg (fun z => d (c1.mp z))]; exact n0.symm
        · rw [if_neg (fun z => by have := c2.mp z; omega), p0]
          unfold Tpv
          rw [ix, s1 x (Or.inr hm)]
          by_cases d : j = 0
          · rw [if_pos d, if_pos d]
          · rw [if_neg d, if_neg d, g, if_pos (by omega)]
      · have ix : Tix (Tis T b e p i) x = j + 1 := Tix_at hw' (e := x) (by rw [s1 x (Or.inr hm), g, if_neg (by omega), if_neg (by omega)]; exact hj)
        refine ⟨?_, ?_⟩
        · rw [if_neg (fun z => by have := c1.mp z; omega), n0]
          unfold Tnx
          rw [ix, s1 x (Or.inr hm), g, if_neg (by omega), if_neg (by omega)]; rfl
        · unfold Tpv
          rw [ix, s1 x (Or.inr hm), if_neg (by omega), g]
          by_cases d : j = i
          · rw [if_neg (by omega), if_pos (by omega), if_pos (c2.mpr d)]
          · rw [if_neg (by omega), if_neg (by omega), if_neg (fun z => d (c2.mp z))]
            rw [ix0, if_neg (by omega), s3 x hm]; rfl
    · have n1 : ∀ o : Option Nat, (∀ y, o = some y → y ∈ l) → o ≠ some x := fun o ho z => hm (ho x z)
      have q1 : pvI l i ≠ some x := n1 _ (fun y hy => by
        unfold pvI at hy
        by_cases c : i = 0
        · rw [if_pos c] at hy; cases hy
        · rw [if_neg c] at hy; exact List.mem_of_getElem? hy)
      have q2 : l[i]? ≠ some x := n1 _ (fun y hy => List.mem_of_getElem? hy)
      rw [if_neg q1, if_neg q2]
      unfold Tnx Tpv Tix
      rw [s2 x hxe hm]
      exact ⟨rfl, rfl⟩
theorem ins_hd (l : List Nat) (hi : i ≤ l.length) : (ins e i l).head? = if pvI l i = none then some e else l.head? := by
  cases i with
  | zero => rfl
  | succ i =>
    cases l with
    | nil => simp at hi
    | cons y l =>
      have : i < (y :: l).length := by have : i + 1 ≤ (y :: l).length := hi; omega
      have e1 : pvI (y :: l) (i + 1) = some ((y :: l)[i]) := by
        unfold pvI
        rw [if_neg (by omega)]
        exact List.getElem?_eq_getElem this
      rw [e1, if_neg (by simp)]
      rfl
end IN1
