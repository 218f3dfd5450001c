/-! MATHS, 69: counters -/
section MAD
variable {T : qqT} {G : qqG} {L : qqL} {A : kA} {ex : Nat → Nat → Prop} {K K' : kS} {S S' : cS} {σ σ' : mS} {v v' nw k : Nat}
/-- whether an element is hidden, or in one that is -/
def mdH (T : qqT) (σ : mS) (h : Int32) (e : Nat) : Bool := decide (σ.1 43 (12 * e + 5) = 0) || (match Tsp T e with
  | none => false
  | some q => bt h q)
def mdC (σ : mS) (c : Int32) (e : Nat) : Int32 := (if σ.1 43 (12 * e + 8) < 0 then c else σ.1 43 (12 * e + 8)) + σ.1 43 (12 * e + 7)
/-- one step of the reference -/
theorem r_made_step (hw : Tw T) (rs : RS T G σ) (row : rowS 75 76 σ (Tord T)) {x e : Nat} (hx : x < Tn T) {D R : List Nat} {m : Nat} {c h a : Int32} (ho : Tord T = D ++ e :: R) : f_made_48 (m + 1) (nI x) c h a (nI D.length) σ = if mdH T σ h e = true then f_made_48 m (nI x) c (h ||| ((1 : Int32) <<< (nI e &&& 31))) a (nI (D ++ [e]).length) σ else f_made_48 m (nI x) (mdC σ c e) h (if e = x then (if σ.1 43 (12 * e + 9) ≤ 0 then a else mdC σ c e) else a) (nI (D ++ [e]).length) σ := by
  have h30 := hw.n30
  obtain ⟨he, hd⟩ := Tord_is hw (show e ∈ Tord T by rw [ho]; exact List.mem_append_right _ List.mem_cons_self)
  have hl := Tord_len hw
  have hlen : (D ++ e :: R).length = D.length + R.length + 1 := by rw [List.length_append]; rfl
  rw [ho, hlen] at hl
  have hlen1 : (D ++ [e]).length = D.length + 1 := by rw [List.length_append]; rfl
  obtain ⟨w1, w2⟩ := row
  have ge : σ.1 75 D.length = nI e := w2 D.length e (by rw [ho, List.getElem?_append_right (Nat.le_refl _), Nat.sub_self]; rfl)
  have i12 : ∀ p, p < 12 → (12 : Int32) * nI e + nI p = nI (12 * e + p) := fun p hp => by rw [show (12 : Int32) = nI 12 from rfl, pk_mul, nI_add]
  have i5 : (12 : Int32) * nI e + 5 = nI (12 * e + 5) := i12 5 (by decide)
  have i7 : (12 : Int32) * nI e + 7 = nI (12 * e + 7) := i12 7 (by decide)
  have i8 : (12 : Int32) * nI e + 8 = nI (12 * e + 8) := i12 8 (by decide)
  have i9 : (12 : Int32) * nI e + 9 = nI (12 * e + 9) := i12 9 (by decide)
  have r77 : rd σ 77 (nI e) = some (qqO (Tsp T e)) := by rw [rd_77 (by omega), rs.2.2 e he]
  have hid : f_made_106 (f_made_48 m) (nI x) c h a (nI D.length) (nI e) σ = f_made_48 m (nI x) c (h ||| ((1 : Int32) <<< (nI e &&& 31))) a (nI (D.length + 1)) σ := by
    unfold f_made_106 f_made_111 f_made_127 f_made_214
    rw [if_neg (by decide), if_neg (by decide), nI_1]
  have shn : f_made_110 (f_made_48 m) (nI x) c h a (nI D.length) (nI e) σ = f_made_48 m (nI x) (mdC σ c e) h (if e = x then (if σ.1 43 (12 * e + 9) ≤ 0 then a else mdC σ c e) else a) (nI (D.length + 1)) σ := by
    unfold f_made_110 f_made_111 f_made_127
    rw [if_pos rfl, if_pos rfl, i8, rd_43 (by omega), qqx, qqx, or_0]
    have t167 : ∀ y0, f_made_167 (f_made_48 m) (nI x) h a (nI D.length) (nI e) y0 σ = f_made_48 m (nI x) (y0 + σ.1 43 (12 * e + 7)) h (if e = x then (if σ.1 43 (12 * e + 9) ≤ 0 then a else y0 + σ.1 43 (12 * e + 7)) else a) (nI (D.length + 1)) σ := by
      intro y0
      unfold f_made_167 f_made_210 f_made_212 f_made_214
      rw [i7, rd_43 (by omega), qqx, i9, rd_43 (by omega), qqx, nI_1]
      by_cases z : e = x
      · rw [if_pos (show nI e = nI x by rw [z]), if_pos z]
        by_cases y : σ.1 43 (12 * e + 9) ≤ 0
        · rw [if_pos y, if_pos y]
        · rw [if_neg y, if_neg y]
      · rw [if_neg (show ¬ nI e = nI x from fun y => z ((nI_eqE (by omega) (by omega)).mp y)), if_neg z]
    unfold mdC
    by_cases z : σ.1 43 (12 * e + 8) < 0
    · rw [if_pos z, t167, if_pos z]
    · rw [if_neg z, t167, if_neg z]
  rw [f_made_48, w1, ho, hlen, if_neg (nI_ge (by omega) (by omega)), rd_75 (by omega), qqx, ge, i5, rd_43 (by omega), qqx, r77, qqx, qqx, hid, shn, hlen1]
  unfold mdH
  by_cases c0 : σ.1 43 (12 * e + 5) = 0
  · rw [if_pos c0, decide_eq_true c0, Bool.true_or, if_pos rfl]
  · rw [if_neg c0, decide_eq_false c0, Bool.false_or]
    cases hs : Tsp T e with
    | none =>
      rw [if_pos (show qqO none < 0 by decide)]
      exact (if_neg (show ¬ (false = true) by decide)).symm
    | some q =>
      have hq := Tsp_n9 hw hs
      rw [qqO_some, if_neg (nI_pos (by omega)), r_bit _ (by omega), qqx, b2_i0]
/-- past the element nothing is told any more -/
theorem r_made_tail (hw : Tw T) (rs : RS T G σ) (row : rowS 75 76 σ (Tord T)) {x : Nat} (hx : x < Tn T) : ∀ (R D : List Nat) (m : Nat) (c h a : Int32), Tord T = D ++ R → R.length < m → x ∉ R → f_made_48 m (nI x) c h a (nI D.length) σ = some (a, σ) := by
  intro R
  induction R with
  | nil =>
    intro D m c h a ho hm hn
    obtain ⟨m, rfl⟩ : ∃ m', m = m' + 1 := ⟨m - 1, by omega⟩
    rw [List.append_nil] at ho
    rw [f_made_48, row.1, ho, if_pos (Int32.le_refl _)]
  | cons e R ih =>
    intro D m c h a ho hm hn
    have hl : (e :: R).length = R.length + 1 := rfl
    obtain ⟨m, rfl⟩ : ∃ m', m = m' + 1 := ⟨m - 1, by omega⟩
    have he : e ≠ x := fun z => hn (by rw [z]; exact List.mem_cons_self)
    rw [r_made_step hw rs row hx ho, if_neg he]
    have i1 := fun c h => ih (D ++ [e]) m c h a (by rw [ho]; simp) (by omega) (fun z => hn (List.mem_cons_of_mem _ z))
    cases mdH T σ h e with
    | true => rw [if_pos rfl]; exact i1 _ _
    | false => rw [if_neg (by decide)]; exact i1 _ _
theorem made_both (hw : Tw T) (hA : KA A ex K S) (j : J0 T G L ex K σ v) (rs : RS T G σ) (row : rowS 75 76 σ (Tord T)) {x : Nat} (hx : x < Tn T) : ∃ val, f_X11_countAt (A 49 0) (some (A 0 x)) S = some val ∧ f_made_48 4000 (nI x) 0 0 (-1) 0 σ = some (val, σ) := by
  have h30 := hw.n30
  have q := j.1.1
  have key : ∀ (R D : List Nat) (m1 m2 : Nat) (c h : Int32), Tord T = D ++ R → R.length < m1 → R.length < m2 → ∃ val, f_X11_countAt_13 (A 49 0) m2 (some (A 0 x)) c h (el A R.head?) S = some val ∧ f_made_48 m1 (nI x) c h (-1) (nI D.length) σ = some (val, σ) := by
    intro R
    induction R with
    | nil =>
      intro D m1 m2 c h ho h1 h2
      obtain ⟨m1, rfl⟩ : ∃ m', m1 = m' + 1 := ⟨m1 - 1, by omega⟩
      obtain ⟨m2, rfl⟩ : ∃ m', m2 = m' + 1 := ⟨m2 - 1, by omega⟩
      rw [List.append_nil] at ho
      refine ⟨-1, ?_, ?_⟩
      · rw [f_X11_countAt_13, if_pos (show el A ([] : List Nat).head? = none from rfl)]
      · rw [f_made_48, row.1, ho, if_pos (Int32.le_refl _)]
    | cons e R ih =>
      intro D m1 m2 c h ho h1 h2
      have hl : (e :: R).length = R.length + 1 := rfl
      obtain ⟨m1, rfl⟩ : ∃ m', m1 = m' + 1 := ⟨m1 - 1, by omega⟩
      obtain ⟨m2, rfl⟩ : ∃ m', m2 = m' + 1 := ⟨m2 - 1, by omega⟩
      obtain ⟨he, hd⟩ := Tord_is hw (show e ∈ Tord T by rw [ho]; exact List.mem_append_right _ List.mem_cons_self)
      have hnd := Tord_nodup hw
      rw [ho] at hnd
      have hnr : e ∉ R := (List.nodup_cons.mp (List.nodup_append.mp hnd).2.1).1
      obtain ⟨⟨w1, -⟩, -⟩ := vEqv_w.mp (j.2.2.2.1.1 e he).1
      have a7 : ∀ p, p < 12 → aI S (some (A 7 e)) (nI p) = some (σ.1 43 (12 * e + p)) := fun p hp => by rw [(c_valueOf hw hA j he (p := p) (by omega)).2.2, w1 p hp]
      have a75 : aI S (some (A 7 e)) 5 = some (σ.1 43 (12 * e + 5)) := a7 5 (by decide)
      have a77 : aI S (some (A 7 e)) 7 = some (σ.1 43 (12 * e + 7)) := a7 7 (by decide)
      have a78 : aI S (some (A 7 e)) 8 = some (σ.1 43 (12 * e + 8)) := a7 8 (by decide)
      have a79 : aI S (some (A 7 e)) 9 = some (σ.1 43 (12 * e + 9)) := a7 9 (by decide)
      obtain ⟨g1, g2, -⟩ := c_valueOf hw hA j he (p := 0) (by decide)
      have gnx := g17 q.1 hA he (chS_ro (q.2.2.1.at hw ho))
      have gsp := g16 q.1 hA (fun e he => (q.2.2.1.1 e he).2.2.1) he
      have ih' := fun c h => ih (D ++ [e]) m1 m2 c h (by rw [ho]; simp) (by omega) (by omega)
      have hid : f_X11_countAt_58 (fun z0 z1 z2 z3 => f_X11_countAt_13 (A 49 0) m2 z0 z1 z2 z3 S) (A 49 0) (some (A 0 x)) c h (some (A 0 e)) S = f_X11_countAt_13 (A 49 0) m2 (some (A 0 x)) c (h ||| ((1 : Int32) <<< (nI e &&& 31))) (el A R.head?) S := by
        unfold f_X11_countAt_58 f_X11_countAt_115
        rw [q.1.gn hA he, qqx, gnx, qqx]
      have shn : f_X11_countAt_71 (fun z0 z1 z2 z3 => f_X11_countAt_13 (A 49 0) m2 z0 z1 z2 z3 S) (A 49 0) (some (A 0 x)) c h (some (A 0 e)) (some (A 7 e)) S = if e = x then (if σ.1 43 (12 * e + 9) ≤ 0 then some (-1) else some (mdC σ c e)) else f_X11_countAt_13 (A 49 0) m2 (some (A 0 x)) (mdC σ c e) h (el A R.head?) S := by
        have t88 : ∀ y0, f_X11_countAt_88 (fun z0 z1 z2 z3 => f_X11_countAt_13 (A 49 0) m2 z0 z1 z2 z3 S) (A 49 0) (some (A 0 x)) h (some (A 0 e)) (some (A 7 e)) y0 S = if e = x then (if σ.1 43 (12 * e + 9) ≤ 0 then some (-1) else some (y0 + σ.1 43 (12 * e + 7))) else f_X11_countAt_13 (A 49 0) m2 (some (A 0 x)) (y0 + σ.1 43 (12 * e + 7)) h (el A R.head?) S := by
          intro y0
          unfold f_X11_countAt_88 f_X11_countAt_114 f_X11_countAt_115
          rw [a77, qqx, a79, qqx, gnx, qqx]
          by_cases z : e = x
          · rw [if_pos (show some (A 0 e) = some (A 0 x) by rw [z]), if_pos z]
          · rw [if_neg (show ¬ some (A 0 e) = some (A 0 x) from fun y => z (hA.2.1 0 e 0 x (q.1.E he (by decide)) (q.1.E hx (by decide)) (Option.some.inj y)).2), if_neg z]
        unfold f_X11_countAt_71 mdC
        rw [a78, qqx, qqx]
        by_cases z : σ.1 43 (12 * e + 8) < 0
        · rw [if_pos z, t88, if_pos z]
        · rw [if_neg z, t88, if_neg z]
      have cstep : f_X11_countAt_13 (A 49 0) (m2 + 1) (some (A 0 x)) c h (some (A 0 e)) S = if mdH T σ h e = true then f_X11_countAt_13 (A 49 0) m2 (some (A 0 x)) c (h ||| ((1 : Int32) <<< (nI e &&& 31))) (el A R.head?) S else (if e = x then (if σ.1 43 (12 * e + 9) ≤ 0 then some (-1) else some (mdC σ c e)) else f_X11_countAt_13 (A 49 0) m2 (some (A 0 x)) (mdC σ c e) h (el A R.head?) S) := by
        rw [f_X11_countAt_13, if_neg (fun z => by cases z), g1, qqx, g2, qqx, a75, qqx, gsp, qqx, qqx, hid, shn]
        unfold mdH
        by_cases c0 : σ.1 43 (12 * e + 5) = 0
        · rw [if_pos c0, decide_eq_true c0, Bool.true_or, if_pos rfl]
        · rw [if_neg c0, decide_eq_false c0, Bool.false_or]
          cases hs : Tsp T e with
          | none =>
            rw [if_pos (show el A none = none from rfl)]
            exact (if_neg (show ¬ (false = true) by decide)).symm
          | some y =>
            have hy := Tsp_n9 hw hs
            rw [if_neg (show ¬ el A (some y) = none from fun z => by cases z), el_some, q.1.gn hA hy, qqx, c_isMember _ (by omega), qqx, b2_i0]
      show ∃ val, f_X11_countAt_13 (A 49 0) (m2 + 1) (some (A 0 x)) c h (some (A 0 e)) S = some val ∧ _
      rw [cstep, r_made_step hw rs row hx ho]
      cases mdH T σ h e with
      | true => rw [if_pos rfl, if_pos rfl]; exact ih' _ _
      | false =>
        rw [if_neg (show ¬ (false = true) by decide), if_neg (show ¬ (false = true) by decide)]
        by_cases z : e = x
        · rw [if_pos z, if_pos z]
          subst z
          have tl := fun a => r_made_tail hw rs row hx R (D ++ [e]) m1 (mdC σ c e) h a (by rw [ho]; simp) (by omega) hnr
          by_cases y : σ.1 43 (12 * e + 9) ≤ 0
          · rw [if_pos y, if_pos y]; exact ⟨_, rfl, tl _⟩
          · rw [if_neg y, if_neg y]; exact ⟨_, rfl, tl _⟩
        · rw [if_neg z, if_neg z]; exact ih' _ _
  obtain ⟨val, a1, a2⟩ := key (Tord T) [] 4000 4000 0 0 rfl (by have := Tord_len hw; omega) (by have := Tord_len hw; omega)
  refine ⟨val, ?_, a2⟩
  unfold f_X11_countAt
  rw [q.2.1.trees hA, qqx, q.1.top hA, qqx]
  obtain ⟨r, hr⟩ := Tord_head hw
  rw [hr] at a1
  exact a1
theorem simJ_made (hk : k < 512) : sim_made (J k) (J (k + 1)) := by
  intro S σ a1 h
  obtain ⟨T, G, L, A, ex, K, v, nw, w⟩ := h
  obtain ⟨⟨hw, hA, hin⟩, h49, -, j⟩ := id w
  have h30 := hw.n30
  have q := j.1.1
  have rt := j.1.2.2.2
  refine at49 (P := fun x => sJR [2, 1] lvN (J (k + 1)) (f_X11_made x a1 S) (f_made a1 σ)) h49 ?_
  unfold f_X11_made f_made f_made_26 f_X11_made_22
  rw [q.2.1.r11 hA, qqx, r_isElement rt hw, qqx]
  rcases ix_cases a1 (n := Tn T) (by omega) with ⟨e, he, rfl⟩ | hx
  · rw [c_elementAt hw q hA he, qqx, if_dt (nI_inn he (by omega)), r_inDoc hw rt he, qqx]
    show sJR _ _ _ ((gR S (some (A 49 0)) 11 0).bind _) _
    rw [q.2.1.trees hA, qqx]
    show sJR _ _ _ ((rc S (some (A 50 0)) 10).bind _) _
    rw [hA.Rc 50 10 (q.2.1.x (by decide) (by decide) (by decide)) rfl, qqx, c_holds hw hA q he, qqx, b2_i0, b2_i0]
    cases hd : TD T e with
    | false =>
      rw [if_neg (by decide), if_neg (by decide), c_refS1, qqx, r_holds2, qqx]
      exact sJR.l rfl (w.no 2)
    | true =>
      rw [if_pos rfl, if_pos rfl, c_refS0, qqx, r_holds0, qqx, if_pos rfl]
      obtain ⟨S', K', σ', v', e1, e2, h1, j1, rs, row, -, -, z1, z2⟩ := w.read hk
      obtain ⟨val, m1, m2⟩ := made_both hw h1 j1 rs row he
      rw [e2, qqx, m2]
      show sJR _ _ _ ((rc S (some (A 49 0)) 11).bind _) _
      rw [q.2.1.r11 hA, qqx]
      show sJR _ _ _ ((f_X11_read (A 49 0) S).bind _) _
      rw [e1, qqx, j1.1.1.2.1.r11 h1, qqx, m1, qqx]
      exact sJR.r rfl z1 z2
  · rw [c_elementN hw q hA hx, qqx, if_df hx, r_holds1, qqx]
    exact sJR.l rfl (w.no 1)
end MAD
