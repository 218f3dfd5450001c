section VALS
variable {T : qqT} {G : qqG} {L : qqL} {A : kA} {ex : Nat → Nat → Prop} {K K' : kS} {S S' : cS} {σ σ' : mS} {v v' nw k : Nat}
theorem JW.read (hk : k < 60000) (w : JW k T G L A ex K v nw S σ) : ∃ S' K' σ' v', f_X11_read (A 49 0) S = some S' ∧ f_read (sf σ 81 0) = some σ' ∧ KA A ex K' S' ∧ J0 T G L ex K' σ' v' ∧ RS T G σ' ∧ rowS 75 76 σ' (Tord T) ∧ hitS T G σ' ∧ kn48 T σ' ∧ σ'.2 81 = 0 ∧ (∀ n, S'.2 ≤ n → JP (pf T G σ (P_rd T G σ)) (k + 1) (S'.1, n) σ') := by
  obtain ⟨⟨hw, hA, hin⟩, h49, ⟨hv, hn, -⟩, j⟩ := id w
  have j0 := j.scR (scR_sf σ 0)
  obtain ⟨S', K', σ', v', e1, e2, h1, in1, j1, v1, v2, rs, row, hit, f, kn⟩ := read_both hw hn.2 hA hin j0 (by omega)
  exact ⟨S', K', σ', v', e1, e2, h1, j1, rs, row, hit, kn, f 81 (by decide), w.to h1 in1 j1 (by omega) (f 54 (by decide)) (Or.inr ⟨f 81 (by decide), rfl, rfl, e2⟩)⟩
theorem r_told0 (j : J0 T G L ex K σ v) {e p : Nat} (hw : Tw T) (he : e < Tn T) (hp : p < 15) : f_told (nI e) (nI p) 0 σ = some (K.1 7 e p) := by
  have h30 := hw.n30
  obtain ⟨⟨w1, w2⟩, -⟩ := vEqv_w.mp (j.2.2.2.1.1 e he).1
  have ea : (30 : Int32) * 0 + nI e = nI e := by rw [show (30 : Int32) * 0 = nI 0 by decide, nI_add, Nat.zero_add]
  unfold f_told f_told_75
  rw [ea]
  by_cases c : 12 ≤ p
  · obtain ⟨u, rfl⟩ : ∃ u, p = 12 + u := ⟨p - 12, by omega⟩
    have hu : u < 3 := by omega
    obtain ⟨o1, o2⟩ := w2 u hu
    have ei : (3 : Int32) * nI e + nI (12 + u) - 12 = nI (3 * e + u) := by
      rw [show (3 : Int32) = nI 3 from rfl, pk_mul, nI_add, show (12 : Int32) = nI 12 from rfl, pk_sub (by omega)]
      congr 1; omega
    rw [if_pos (by rw [show (12 : Int32) = nI 12 from rfl]; exact nI_le (by omega) (by omega)), ei, rd_44 (by omega), qqx, rd_45 (by omega), qqx, o2]
    unfold cod
    by_cases z : (0 : Int32) ≤ σ.1 44 (3 * e + u)
    · rw [if_pos z, qqx, if_neg (Int32.not_lt.mpr z)]
    · rw [if_neg z, if_pos (Int32.not_le.mp z)]
  · have ei : (12 : Int32) * nI e + nI p = nI (12 * e + p) := by rw [show (12 : Int32) = nI 12 from rfl, pk_mul, nI_add]
    rw [if_neg (ge12 (by omega)), ei, rd_43 (by omega), qqx, w1 p (by omega)]
theorem c_valueOf (hw : Tw T) (hA : KA A ex K S) (j : J0 T G L ex K σ v) {e p : Nat} (he : e < Tn T) (hp : p < 15) : gR S (some (A 0 e)) 3 19 = some (some (A 6 e)) ∧ gR S (some (A 6 e)) 9 0 = some (some (A 7 e)) ∧ aI S (some (A 7 e)) (nI p) = some (K.1 7 e p) := by
  have st := kSt_of hw j.1.1.1 j.1.1.2.1 j.1.2.1 false he
  exact ⟨j.1.1.1.g19 hA he, st.v hA, st.a hA hp⟩
theorem sq_value {T : qqT} {G : qqG} {L : qqL} {A : kA} {ex : Nat → Nat → Prop} {K : kS} {v nw k : Nat} {S : cS} {σ : mS} (hk : k < 60000) (w : JW k T G L A ex K v nw S σ) (a1 a2 : Int32) : sJR [2, 0, 1] lvN (JP (pf T G σ (P_rd T G σ)) (k + 1)) (f_X11_value 1 a1 a2 S) (f_value a1 a2 σ) := by
  obtain ⟨⟨hw, hA, hin⟩, h49, -, j⟩ := id w
  have h30 := hw.n30
  have q := j.1.1
  have rt := j.1.2.2.2
  refine at49 (P := fun x => sJR [2, 0, 1] lvN (JP (pf T G σ (P_rd T G σ)) (k + 1)) (f_X11_value x a1 a2 S) (f_value a1 a2 σ)) h49 ?_
  unfold f_X11_value f_value f_value_41 f_X11_value_20 f_X11_value_39
  rw [q.2.1.r11 hA, qqx, r_isElement rt hw, qqx]
  rcases ix_cases a1 (n := Tn T) (by omega) with ⟨e, he, rfl⟩ | hx
  · rw [c_elementAt hw q hA he, qqx, if_dt (nI_inn he (by omega)), r_in0 a2 (n := 15) (by decide) (by decide), qqx]
    show sJR _ _ _ ((f_X11_isBelow a2 (nI 15)).bind _) _
    rw [c_isBelow, qqx]
    rcases ix_cases a2 (n := 15) (by decide) with ⟨p, hp, rfl⟩ | hx
    · rw [if_dt (nI_inn hp (by decide)), if_dt (nI_inn hp (by decide)), c_refA0, qqx, r_inDoc hw rt he, qqx]
      show sJR _ _ _ ((gR S (some (A 49 0)) 11 0).bind _) _
      rw [q.2.1.trees hA, qqx, hA.Rc 50 10 (q.2.1.x (by decide) (by decide) (by decide)) rfl, qqx, c_holds hw hA q he, qqx, b2_i0, b2_i0]
      cases hd : TD T e with
      | false =>
        rw [if_neg (by decide), if_neg (by decide), c_refS1, qqx, r_holds3, qqx]
        exact sJR.l rfl (w.no 3)
      | true =>
        rw [if_pos rfl, if_pos rfl, c_refS0, qqx, r_holds0, qqx, if_pos rfl]
        obtain ⟨S', K', σ', v', e1, e2, h1, j1, -, -, -, -, z1, z2⟩ := w.read hk
        obtain ⟨g1, g2, g3⟩ := c_valueOf hw h1 j1 he hp
        rw [e2, qqx, r_told0 j1 hw he hp, qqx]
        show sJR _ _ _ ((rc S (some (A 49 0)) 11).bind _) _
        rw [q.2.1.r11 hA, qqx]
        show sJR _ _ _ ((f_X11_read (A 49 0) S).bind _) _
        rw [e1, qqx, g1, qqx, g2, qqx, g3, qqx]
        exact sJR.r rfl z1 z2
    · rw [if_df hx, if_df hx, c_refA1, qqx, r_holds2, qqx]
      exact sJR.l rfl (w.no 2)
  · rw [c_elementN hw q hA hx, qqx, if_df hx, r_holds1, qqx]
    exact sJR.l rfl (w.no 1)
theorem sq_size {T : qqT} {G : qqG} {L : qqL} {A : kA} {ex : Nat → Nat → Prop} {K : kS} {v nw k : Nat} {S : cS} {σ : mS} (hk : k < 60000) (w : JW k T G L A ex K v nw S σ) (a1 : Int32) : sJR [2, 1] lvN (JP (pf T G σ (P_rd T G σ)) (k + 1)) (f_X11_size 1 a1 S) (f_size a1 σ) := by
  obtain ⟨⟨hw, hA, hin⟩, h49, -, j⟩ := id w
  have h30 := hw.n30
  have q := j.1.1
  have rt := j.1.2.2.2
  refine at49 (P := fun x => sJR [2, 1] lvN (JP (pf T G σ (P_rd T G σ)) (k + 1)) (f_X11_size x a1 S) (f_size a1 σ)) h49 ?_
  unfold f_X11_size f_size f_size_26 f_X11_size_22 f_X11_size_53
  rw [q.2.1.r11 hA, qqx, r_isElement rt hw, qqx]
  rcases ix_cases a1 (n := Tn T) (by omega) with ⟨e, he, rfl⟩ | hx
  · rw [c_elementAt hw q hA he, qqx, if_dt (nI_inn he (by omega)), r_inDoc hw rt he, qqx]
    show sJR _ _ _ ((gR S (some (A 49 0)) 11 0).bind _) _
    rw [q.2.1.trees hA, qqx]
    show sJR _ _ _ ((rc S (some (A 50 0)) 10).bind _) _
    rw [hA.Rc 50 10 (q.2.1.x (by decide) (by decide) (by decide)) rfl, qqx, c_holds hw hA q he, qqx, b2_i0, b2_i0]
    cases hd : TD T e with
    | false =>
      rw [if_neg (by decide), if_neg (by decide), c_refS1, qqx, r_holds2, qqx]
      exact sJR.l rfl (w.no 2)
    | true =>
      rw [if_pos rfl, if_pos rfl, c_refS0, qqx, r_holds0, qqx, if_pos rfl]
      obtain ⟨S', K', σ', v', e1, e2, h1, j1, -, -, -, kn, z1, z2⟩ := w.read hk
      obtain ⟨g1, g2, g3⟩ := c_valueOf hw h1 j1 he (p := 6) (by decide)
      obtain ⟨⟨w1, w2⟩, w3⟩ := vEqv_w.mp (j1.2.2.2.1.1 e he).1
      have w4 := ((j1.2.2.2.1.1 e he).2.2.2.1 (kn e he hd)).2
      rw [e2, qqx, rd_46 (by omega), qqx]
      show sJR _ _ _ ((rc S (some (A 49 0)) 11).bind _) _
      rw [q.2.1.r11 hA, qqx]
      show sJR _ _ _ ((f_X11_read (A 49 0) S).bind _) _
      rw [e1, qqx, g1, qqx, g2, qqx, show (6 : Int32) = nI 6 from rfl, g3, qqx, w1 6 (by decide)]
      by_cases c : σ'.1 43 (12 * e + 6) ≤ 0
      · rw [if_pos c, w4 (Int32.not_lt.mpr c)]
        exact sJR.r rfl z1 z2
      · rw [if_neg c, qqx, h1.I 6 9 (j1.1.1.1.E he (by decide)) rfl, qqx, w3 (Int32.not_le.mp c)]
        exact sJR.r rfl z1 z2
  · rw [c_elementN hw q hA hx, qqx, if_df hx, r_holds1, qqx]
    exact sJR.l rfl (w.no 1)
theorem sq_seen {T : qqT} {G : qqG} {L : qqL} {A : kA} {ex : Nat → Nat → Prop} {K : kS} {v nw k : Nat} {S : cS} {σ : mS} (hk : k < 60000) (w : JW k T G L A ex K v nw S σ) (a1 a2 : Int32) : sJR [2, 0, 1] lvN (JP (pf T G σ (P_rd T G σ)) (k + 1)) (f_X11_seen 1 a1 a2 S) (f_seen a1 a2 σ) := by
  obtain ⟨⟨hw, hA, hin⟩, h49, -, j⟩ := id w
  have h30 := hw.n30
  have q := j.1.1
  have rt := j.1.2.2.2
  refine at49 (P := fun x => sJR [2, 0, 1] lvN (JP (pf T G σ (P_rd T G σ)) (k + 1)) (f_X11_seen x a1 a2 S) (f_seen a1 a2 σ)) h49 ?_
  unfold f_X11_seen f_seen f_seen_40 f_X11_seen_19 f_X11_seen_38
  rw [q.2.1.r11 hA, qqx, r_isElement rt hw, qqx]
  rcases ix_cases a1 (n := Tn T) (by omega) with ⟨e, he, rfl⟩ | hx
  · rw [c_elementAt hw q hA he, qqx, if_dt (nI_inn he (by omega)), r_in0 a2 (n := 5) (by decide) (by decide), qqx]
    show sJR _ _ _ ((f_X11_isBelow a2 (nI 5)).bind _) _
    rw [c_isBelow, qqx]
    rcases ix_cases a2 (n := 5) (by decide) with ⟨p, hp, rfl⟩ | hx
    · rw [if_dt (nI_inn hp (by decide)), if_dt (nI_inn hp (by decide)), c_refA0, qqx, r_inDoc hw rt he, qqx]
      show sJR _ _ _ ((gR S (some (A 49 0)) 11 0).bind _) _
      rw [q.2.1.trees hA, qqx, hA.Rc 50 10 (q.2.1.x (by decide) (by decide) (by decide)) rfl, qqx, c_holds hw hA q he, qqx, b2_i0, b2_i0]
      cases hd : TD T e with
      | false =>
        rw [if_neg (by decide), if_neg (by decide), c_refS1, qqx, r_holds3, qqx]
        exact sJR.l rfl (w.no 3)
      | true =>
        rw [if_pos rfl, if_pos rfl, c_refS0, qqx, r_holds0, qqx, if_pos rfl]
        obtain ⟨S', K', σ', v', e1, e2, h1, j1, -, -, -, kn, z1, z2⟩ := w.read hk
        have t1 := j1.1.1.1
        have p1 := j1.1.1.2.1
        obtain ⟨r1, r2, r3, r4, r5, r6⟩ := j1.2.2.2.1.1 e he
        obtain ⟨⟨w1, w2⟩, w3⟩ := vEqv_w.mp r1
        have bv : bV (qBs σ' e p) := by
          unfold qBs
          by_cases z : σ'.1 43 (12 * e + p) = -1000000
          · rw [if_pos z]; unfold bV; decide
          · rw [if_neg z]; exact r5 p (by omega)
        rw [e2, qqx, r_seenOf j1.2.2.1.1 j1.2.2.1.2.2.1 (by omega) hp bv, qqx]
        show sJR _ _ _ ((rc S (some (A 49 0)) 11).bind _) _
        rw [q.2.1.r11 hA, qqx]
        show sJR _ _ _ ((f_X11_read (A 49 0) S).bind _) _
        rw [e1, qqx, t1.g19 h1 he, qqx, p1.I49 h1, qqx, qqx, p1.r11 h1, qqx, c_playedFor hw t1 p1 j1.1.2.1 h1 he (w1 11 (by decide)), qqx, h1.Rc 6 9 (t1.E he (by decide)) rfl, qqx, j1.2.2.1.2.2.2.1, c_seenAt hw t1 p1 j1.1.2.1 h1 j1.2.2.1.1 j1.2.2.1.2.2.1 j1.2.2.1.2.1 he hp (w1 p (by omega)) (r2 p hp) r3 (r4 (kn e he hd)).1, qqx]
        exact sJR.r rfl z1 z2
    · rw [if_df hx, if_df hx, c_refA1, qqx, r_holds2, qqx]
      exact sJR.l rfl (w.no 2)
  · rw [c_elementN hw q hA hx, qqx, if_df hx, r_holds1, qqx]
    exact sJR.l rfl (w.no 1)
end VALS
