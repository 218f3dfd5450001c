theorem and_b2 (x y : Bool) : b2 x &&& b2 y = b2 (x && y) := by cases x <;> cases y <;> decide
section FL4
variable {T : qqT} {G : qqG} {L : qqL} {A : kA} {ex : Nat → Nat → Prop} {K K0 : kS} {S : cS} {σ σ0 : mS} {D : List Nat} {ch un dn : Int32} {o9 h9 : Bool}
theorem r_plain_17 {e : Nat} (he : e < 30) (c0 : Bool) : ∀ d m p, p + d = 15 → d < m → f_plain_17 m (nI e) (b2 (c0 && !qAny (fun p => Ldc σ p (40 + e)) p)) (nI p) σ = some (b2 (c0 && !qAny (fun p => Ldc σ p (40 + e)) 15)) := by
  intro d
  induction d with
  | zero =>
    intro m p hp hm
    obtain ⟨m, rfl⟩ : ∃ m', m = m' + 1 := ⟨m - 1, by omega⟩
    have hp : p = 15 := by omega
    subst hp
    rw [f_plain_17, if_pos (show (15 : Int32) ≤ nI 15 by decide), b2_rz]
  | succ d ih =>
    intro m p hp hm
    obtain ⟨m, rfl⟩ : ∃ m', m = m' + 1 := ⟨m - 1, by omega⟩
    rw [f_plain_17, if_neg (ge15 (by omega)), show (40 : Int32) = nI 40 from rfl, show (16 : Int32) = nI 16 from rfl, nI_add, pk_mul, nI_add, rd_37 (by omega), qqx]
    unfold f_plain_46
    rw [nI_1]
    have go : ∀ y : Bool, y = !Ldc σ p (40 + e) → f_plain_17 m (nI e) (b2 (c0 && !qAny (fun p => Ldc σ p (40 + e)) p) &&& b2 y) (nI (p + 1)) σ = some (b2 (c0 && !qAny (fun p => Ldc σ p (40 + e)) 15)) := by
      intro y hy
      rw [and_b2, ← ih m (p + 1) (by omega) (by omega), hy]
      congr 2
      show _ = (c0 && !(qAny (fun p => Ldc σ p (40 + e)) p || Ldc σ p (40 + e)))
      cases c0 <;> cases qAny (fun p => Ldc σ p (40 + e)) p <;> cases Ldc σ p (40 + e) <;> rfl
    by_cases c : (0 : Int32) ≤ σ.1 37 (16 * (40 + e) + p)
    · rw [if_pos c]; exact go false (by unfold Ldc; rw [decide_eq_true c]; rfl)
    · rw [if_neg c]; exact go true (by unfold Ldc; rw [decide_eq_false c]; rfl)
theorem r_plain (hw : Tw T) (hr : RT T σ) {e : Nat} (he : e < Tn T) : f_plain (nI e) σ = some (b2 (qPn T σ e)) := by
  have h30 := hw.n30
  unfold f_plain f_plain_14 qPn
  rw [hr.s (by omega), qqx, b2_i0, Bool.and_comm]
  have := r_plain_17 (σ := σ) (e := e) (by omega) (!Ts T e) 15 4000 0 (by omega) (by decide)
  have z : (!Ts T e && !qAny (fun p => Ldc σ p (40 + e)) 0) = !Ts T e := by show (!Ts T e && !false) = _; rw [Bool.not_false, Bool.and_true]
  rw [z] at this
  cases hs : Ts T e with
  | true => rw [if_pos rfl]; rw [hs] at this; exact this
  | false => rw [if_neg (by decide)]; rw [hs] at this; exact this
theorem r_twins (hw : Tw T) (rs : RS T G σ) {e f : Nat} (he : e < Tn T) (hf : f < Tn T) : f_twins (nI e) (nI f) σ = some (b2 (qTw T σ e f)) := by
  have h30 := hw.n30
  unfold f_twins qTw
  rw [rd_0 (by omega), qqx, rd_0 (by omega), qqx]
  by_cases c1 : ¬ σ.1 0 e = σ.1 0 f
  · rw [if_neg c1, decide_eq_false c1, Bool.false_and]; rfl
  rw [if_pos (Decidable.not_not.mp c1), decide_eq_true (Decidable.not_not.mp c1), Bool.true_and, rd_1 (by omega), qqx, rd_1 (by omega), qqx]
  by_cases c2 : ¬ σ.1 1 e = σ.1 1 f
  · rw [if_neg c2, decide_eq_false c2, Bool.false_and]; rfl
  rw [if_pos (Decidable.not_not.mp c2), decide_eq_true (Decidable.not_not.mp c2), Bool.true_and, rd_2 (by omega), qqx, rd_2 (by omega), qqx]
  by_cases c3 : ¬ σ.1 2 e = σ.1 2 f
  · rw [if_neg c3, decide_eq_false c3, Bool.false_and]; rfl
  rw [if_pos (Decidable.not_not.mp c3), decide_eq_true (Decidable.not_not.mp c3), Bool.true_and, rd_3 (by omega), qqx, rd_3 (by omega), qqx]
  by_cases c4 : ¬ σ.1 3 e = σ.1 3 f
  · rw [if_neg c4, decide_eq_false c4, Bool.false_and]; rfl
  rw [if_pos (Decidable.not_not.mp c4), decide_eq_true (Decidable.not_not.mp c4), Bool.true_and, rd_4 (by omega), qqx, rd_4 (by omega), qqx]
  by_cases c5 : ¬ σ.1 4 e = σ.1 4 f
  · rw [if_neg c5, decide_eq_false c5, Bool.false_and]; rfl
  rw [if_pos (Decidable.not_not.mp c5), decide_eq_true (Decidable.not_not.mp c5), Bool.true_and, rd_5 (by omega), qqx, rd_5 (by omega), qqx]
  by_cases c6 : ¬ σ.1 5 e = σ.1 5 f
  · rw [if_neg c6, decide_eq_false c6, Bool.false_and]; rfl
  rw [if_pos (Decidable.not_not.mp c6), decide_eq_true (Decidable.not_not.mp c6), Bool.true_and]
  unfold f_twins_95
  rw [if_neg (show ¬ (1 : Int32) = 0 by decide), rs.sp hw he, qqx, rs.sp hw hf, qqx]
  have hq : (qqO (Tsp T e) = qqO (Tsp T f)) = (Tsp T e = Tsp T f) := by
    cases h1 : Tsp T e with
    | none =>
      cases h2 : Tsp T f with
      | none => simp
      | some y =>
        have := Tsp_30 hw h2
        refine propext ⟨fun z => ?_, fun z => by cases z⟩
        have h9 := nI_pos (show y < 2 ^ 31 by omega)
        rw [qqO_none, qqO_some] at z
        rw [← z] at h9
        exact absurd (by decide) h9
    | some x =>
      have hx := Tsp_30 hw h1
      rw [qqO_some]
      refine propext ⟨fun z => ?_, fun z => by rw [← z]; rfl⟩
      have := (qqO_eqn (o := Tsp T f) (x := x) (fun k hk => Tsp_30 hw hk) hx).mp z.symm
      exact this.symm
  by_cases c7 : ¬ Tsp T e = Tsp T f
  · rw [if_neg (fun z => c7 (hq.mp z)), decide_eq_false c7, Bool.false_and]; rfl
  rw [if_pos (hq.mpr (Decidable.not_not.mp c7)), decide_eq_true (Decidable.not_not.mp c7), Bool.true_and, r_plain hw rs.1 he, qqx, b2_i0]
  cases h8 : qPn T σ e with
  | false => rw [if_neg (by decide)]; rfl
  | true =>
    rw [if_pos rfl, r_plain hw rs.1 hf, qqx, b2_i0]
    cases h9 : qPn T σ f with
    | false => rw [if_neg (by decide)]; rfl
    | true => rw [if_pos rfl]; rfl
theorem r_ahead (hw : Tw T) (hr : RT T σ) {e : Nat} (he : e < Tn T) : f_ahead (nI e) σ = some (qqO (Tpv T e)) := by
  have h30 := hw.n30
  have h9 := Tix_30 hw he
  unfold f_ahead f_ahead_60 Tpv
  rw [r_placeOf hw hr he, qqx]
  by_cases c : Tix T e = 0
  · rw [c, if_neg (show ¬ (0 : Int32) ≤ nI 0 - 1 by decide), if_pos rfl]; rfl
  · rw [show (1 : Int32) = nI 1 from rfl, pk_sub (by omega), if_pos (show (0 : Int32) ≤ nI (Tix T e - 1) from nI_pos' (by omega)), if_neg c, hr.p (by omega), qqx]
    have hlt := Tix_lt hw e
    have hg : (Tsb T e)[Tix T e - 1]? = some ((Tsb T e)[Tix T e - 1]'(by omega)) := List.getElem?_eq_getElem _
    generalize hf : (Tsb T e)[Tix T e - 1]'(by omega) = f at hg
    rw [hg]
    cases hp : Tp T e with
    | some p =>
      rw [Tsb_p hp] at hg
      rw [if_neg (show ¬ qqO (some p) < 0 from nI_pos (by have := (hw.p30 hp).2; omega)), qqx, qqO_some, hr.c (hw.p30 hp).2 (by omega) hg, qqx]; rfl
    | none =>
      cases hh : Th T e with
      | none => rw [Tix_n hw hp hh] at c; exact absurd rfl c
      | some q =>
        rw [Tsb_h hw hh] at hg
        rw [if_pos (show qqO none < 0 from (show (-1 : Int32) < 0 by decide)), hr.h (by omega), hh, qqx, qqO_some, hr.t (hw.h30 hh).2 (by omega) hg, qqx]; rfl
theorem F_loop (hw : Tw T) : ∀ (R D : List Nat) (ch un dn : Int32) (K : kS) (S : cS) (σ : mS) (m1 m2 : Nat), KA A ex K S → FJ T G L A ex o9 h9 σ0 K0 D ch un dn K σ → Tord T = D ++ R → R.length < m1 → R.length < m2 → ∃ σ' S' K' ch' un' dn' n1 n2, f_flush_117 m1 dn ch un (nI D.length) σ = f_flush_117 (n1 + 1) dn' ch' un' (nI (Tord T).length) σ' ∧ f_X11_flush_28 (A 49 0) m2 (el A R.head?) S = f_X11_flush_28 (A 49 0) (n2 + 1) none S' ∧ KA A ex K' S' ∧ FJ T G L A ex o9 h9 σ0 K0 (Tord T) ch' un' dn' K' σ' := by
  intro R
  induction R with
  | nil =>
    intro D ch un dn K S σ m1 m2 h J ho hm1 hm2
    rw [List.append_nil] at ho
    obtain ⟨m1, rfl⟩ : ∃ m', m1 = m' + 1 := ⟨m1 - 1, by omega⟩
    obtain ⟨m2, rfl⟩ : ∃ m', m2 = m' + 1 := ⟨m2 - 1, by omega⟩
    subst ho
    exact ⟨σ, S, K, ch, un, dn, m1, m2, rfl, rfl, h, J⟩
  | cons e R ih =>
    intro D ch un dn K S σ m1 m2 h J ho hm1 hm2
    obtain ⟨m1, rfl⟩ : ∃ m', m1 = m' + 1 := ⟨m1 - 1, by omega⟩
    obtain ⟨m2, rfl⟩ : ∃ m', m2 = m' + 1 := ⟨m2 - 1, by omega⟩
    have hl : (e :: R).length = R.length + 1 := rfl
    obtain ⟨σ1, S1, K1, ch1, un1, dn1, e1, e2, h1, J1⟩ := F_step hw h J ho
    obtain ⟨σ2, S2, K2, ch2, un2, dn2, n1, n2, f1, f2, h2, J2⟩ := ih (D ++ [e]) ch1 un1 dn1 K1 S1 σ1 m1 m2 h1 J1 (by rw [ho]; simp) (by omega) (by omega)
    refine ⟨σ2, S2, K2, ch2, un2, dn2, n1, n2, ?_, ?_, h2, J2⟩
    · rw [e1 m1, ← f1]; simp
    · show f_X11_flush_28 (A 49 0) (m2 + 1) (some (A 0 e)) S = _
      rw [e2 m2]; exact f2
def rFl (σ : mS) (o h : Bool) : Prop := f_flags σ = some (nI (fl2 o h))
theorem fl2_0 (o h : Bool) : (nI (fl2 o h) = 0) = ((!o && !h) = true) := by cases o <;> cases h <;> decide
theorem r_flush_318 (hw : Tw T) (rs : RS T G σ) (hrow : rowS 75 76 σ (Tord T)) {o8 : Bool} (hfl : ∀ v, rFl (sf σ 53 v) o8 h9) (hoo : (!o8 && !h9) = (!o9 && !h9)) (hd : ∀ x, x < 32 → x ∉ Tord T → bt dn x = false) : ∀ (R D : List Nat) (m : Nat) (v : Int32), Tord T = D ++ R → R.length < m → f_flush_318 m dn (nI D.length) (sf σ 53 v) = some (sf (sf (sf σ 53 (v + cntF (shT T σ o9 h9 dn) R)) 49 0) 51 (σ.2 51 + 1)) := by
  have h30 := hw.n30
  intro R
  induction R with
  | nil =>
    intro D m v ho hm
    obtain ⟨m, rfl⟩ : ∃ m', m = m' + 1 := ⟨m - 1, by omega⟩
    rw [List.append_nil] at ho
    have hlen := Tord_len hw
    rw [f_flush_318, sf_o (by decide), hrow.1, ← ho, if_pos (Int32.le_refl _)]
    unfold f_flush_407
    rw [sf_o (by decide), sf_o (by decide)]
    show some (sf (sf (sf σ 53 v) 49 0) 51 (σ.2 51 + 1)) = some (sf (sf (sf σ 53 (v + 0)) 49 0) 51 (σ.2 51 + 1))
    rw [Int32.add_zero]
  | cons e R ih =>
    intro D m v ho hm
    obtain ⟨m, rfl⟩ : ∃ m', m = m' + 1 := ⟨m - 1, by omega⟩
    have hl2 : (e :: R).length = R.length + 1 := rfl
    have heo : e ∈ Tord T := by rw [ho]; exact List.mem_append_right _ List.mem_cons_self
    obtain ⟨he, hD⟩ := Tord_is hw heo
    have hlen := Tord_len hw
    have hl : (Tord T).length = D.length + (R.length + 1) := by rw [ho, List.length_append]; rfl
    have hget : (Tord T)[D.length]? = some e := by rw [ho, List.getElem?_append_right (Nat.le_refl _)]; simp
    have rs' : RS T G (sf σ 53 v) := rs.sB (sB.sf (L1 := []) (L2 := [53]) (sB.rf σ) (by decide)) (by decide) (by decide)
    rw [f_flush_318, sf_o (by decide), hrow.1, if_neg (nI_ge (by omega) (by omega)), hfl v, qqx]
    by_cases cf : (!o9 && !h9) = true
    · obtain ⟨rfl, rfl⟩ : o9 = false ∧ h9 = false := by revert cf; cases o9 <;> cases h9 <;> simp
      have hc : cntF (shT T σ false false dn) (e :: R) = (if shT T σ false false dn e = true then 1 else 0) + cntF (shT T σ false false dn) R := rfl
      have go : ∀ b : Bool, b = shT T σ false false dn e → f_flush_397 (f_flush_318 m) dn (nI D.length) v (b2 b) (sf σ 53 v) = some (sf (sf (sf σ 53 (v + cntF (shT T σ false false dn) (e :: R))) 49 0) 51 (σ.2 51 + 1)) := by
        intro b hb
        unfold f_flush_397
        rw [nI_1, sf_sf]
        have := ih (D ++ [e]) m (v + b2 b) (by rw [ho]; simp) (by omega)
        rw [show (D ++ [e]).length = D.length + 1 by simp] at this
        rw [this, hc, hb, ← Int32.add_assoc]
        rfl
      rw [if_pos ((fl2_0 o8 false).mpr (by rw [hoo]; rfl)), rd_75 (by omega), qqx, show (sf σ 53 v).1 75 D.length = nI e from hrow.2 _ _ hget, r_ahead hw rs'.1 he, qqx, r_bit _ (by omega), qqx, b2_i0]
      unfold shT lkP at go
      unfold f_flush_396
      rw [show (sf σ 53 v).2 53 = v from sf_s _ _ _]
      cases hb : bt dn e with
      | false => rw [if_neg (by decide)]; exact go false (by rw [hb]; rfl)
      | true =>
        rw [hb] at go
        rw [if_pos rfl]
        cases hp : Tpv T e with
        | none =>
          rw [hp] at go
          rw [if_pos (show qqO none < 0 from (show (-1 : Int32) < 0 by decide))]
          exact go false rfl
        | some f =>
          have hf := Tpv_lt hw he hp
          rw [hp] at go
          rw [if_neg (show ¬ qqO (some f) < 0 from nI_pos (by omega)), qqO_some, r_bit _ (by omega), qqx, b2_i0]
          cases hbf : bt dn f with
          | false => rw [if_neg (by decide)]; exact go false (by show false = (true && (bt dn f && _)); rw [hbf]; rfl)
          | true =>
            rw [if_pos rfl, r_twins hw rs' he hf, qqx, b2_i0]
            have hq : qTw T (sf σ 53 v) e f = qTw T σ e f := rfl
            rw [hq]
            cases hqt : qTw T σ e f with
            | false => rw [if_neg (by decide)]; exact go false (by show false = (true && (bt dn f && (true && (true && qTw T σ e f)))); rw [hqt, hbf]; rfl)
            | true => rw [if_pos rfl]; exact go true (by show true = (true && (bt dn f && (true && (true && qTw T σ e f)))); rw [hqt, hbf]; rfl)
    · rw [if_neg (fun z => cf (by rw [← hoo]; exact (fl2_0 o8 h9).mp z))]
      have hz : ∀ l, cntF (shT T σ o9 h9 dn) l = 0 := by
        intro l
        induction l with
        | nil => rfl
        | cons x r ih2 =>
          have : shT T σ o9 h9 dn x = false := by
            unfold shT lkP
            cases Tpv T x with
            | none => rw [Bool.and_false]
            | some f =>
              show (bt dn x && (bt dn f && (!o9 && (!h9 && qTw T σ x f)))) = false
              revert cf
              cases o9 <;> cases h9 <;> simp
          show (if shT T σ o9 h9 dn x = true then 1 else 0) + cntF (shT T σ o9 h9 dn) r = 0
          rw [this, ih2, if_neg (by decide)]; rfl
      unfold f_flush_407
      rw [hz, Int32.add_zero, sf_o (by decide), sf_o (by decide)]
end FL4
