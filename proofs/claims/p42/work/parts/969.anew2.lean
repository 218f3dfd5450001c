section AN2
variable {T : qqT} {G : qqG} {L : qqL} {A : kA} {ex : Nat → Nat → Prop} {K K' : kS} {S S' : cS} {σ σ' : mS} {v v' nw k : Nat}
theorem TB_tr (hw : Tw T) {x e : Nat} (hx : TB T x e = true) : ∀ w, w < Tn T → TB T e w = true → TB T x w = true := by
  intro w
  refine qqInd (st := Tsp T) (μ := fun e => (TC T e).1) (P := fun w => w < Tn T → TB T e w = true → TB T x w = true) ?_ w
  intro w ih hwn hb
  rw [TB_eq hw hwn] at hb
  cases hs : Tsp T w with
  | none => rw [hs] at hb; cases hb
  | some y =>
    rw [hs] at hb
    have hy := (Tsp_cases hw hs).2.1
    refine (TB_sp hw hwn hs).2 x ?_
    by_cases c : y = e
    · rw [c]; exact hx
    · have : (y == e) = false := by simpa using c
      simp only [this, Bool.false_or] at hb
      exact ih y hs (Tsp_m hw hs) hy hb
theorem TB_pre (hw : Tw T) {D R : List Nat} {e x : Nat} (ho : Tord T = D ++ e :: R) (hx : TB T x e = true) : x ∈ D := by
  have heo : e ∈ Tord T := by rw [ho]; exact List.mem_append_right _ List.mem_cons_self
  obtain ⟨he, hd⟩ := Tord_is hw heo
  have hn := TB_ne hw he hx
  have hxd : TD T x = true := by rw [← TB_D hw e he hx]; exact hd
  have hxo := Tord_mem hw x hn.1 hxd
  rw [ho] at hxo
  rcases List.mem_append.mp hxo with h | h
  · exact h
  · exfalso
    rcases List.mem_cons.mp h with h | h
    · exact hn.2 h
    · obtain ⟨R1, R2, rfl⟩ := List.append_of_mem h
      refine TB_after hw (A0 := D ++ e :: R1) (R := R2) (x := x) (by rw [ho]; simp) e he hx ?_
      exact List.mem_append_right _ List.mem_cons_self
theorem r_vA59 {m : Nat} {x1 x2 : Int32} {D R : List Nat} {e : Nat} {σ1 σ2 : mS} {z : Int32} (hlen : (Tord T).length ≤ 30) (ho : Tord T = D ++ e :: R) (row : rowS 75 76 σ (Tord T)) (e1 : f_style (nI e) 1 1 0 σ = some σ1) (e2 : f_sized (nI e) 1 σ1 = some (z, σ2)) (e3 : wr σ2 46 (30 + nI e) z = some σ') (h75 : σ1.1 75 = σ.1 75) : f_valueAnew_59 (m + 1) x1 x2 (nI D.length) σ = f_valueAnew_59 m x1 x2 (nI (D.length + 1)) σ' := by
  have hl : (Tord T).length = D.length + (R.length + 1) := by rw [ho, List.length_append]; rfl
  have hget : (Tord T)[D.length]? = some e := by rw [ho, List.getElem?_append_right (Nat.le_refl _)]; simp
  have r1 : rd σ 75 (nI D.length) = some (nI e) := by rw [rd_75 (by omega), row.2 _ _ hget]
  have r2 : rd σ1 75 (nI D.length) = some (nI e) := by rw [rd_75 (by omega), h75, row.2 _ _ hget]
  rw [f_valueAnew_59, row.1, if_neg (nI_ge (by omega) (by omega)), r1, qqx, e1, qqx, r2, qqx, qqx, e2, qqx, e3, qqx, nI_1]
theorem an_loop (hw : Tw T) {w : Nat} {line : Int32} (hwn : w < Tn T) (hline : ∀ x, x < 32 → bt line x = (decide (x = w) || TB T x w)) (x1 x2 : Int32) : ∀ (R D : List Nat) (m1 m2 : Nat) (K : kS) (S : cS) (σ : mS), Tord T = D ++ R → R.length < m1 → R.length < m2 → KA A ex K S → KX T G A ex K σ → RS T G σ → rowS 75 76 σ (Tord T) → (∀ x, x ∈ D → ∀ v, v < 3 → okP (rPr σ 1 x v)) → (∀ x, x ∈ D → bt line x = true → vEqv K σ true x) → ∃ S' K' σ', f_X11_findAnew_33 (A 49 0) m1 line (el A R.head?) S = some S' ∧ f_valueAnew_59 m2 x1 x2 (nI D.length) σ = (f_told x1 x2 1 σ').bind (fun v1 => some (v1, σ')) ∧ KA A ex K' S' ∧ kB AI1 AR1 K K' ∧ rA1 (fun i => 30 ≤ i) σ σ' ∧ ∀ x, x ∈ Tord T → bt line x = true → vEqv K' σ' true x := by
  have h30 := hw.n30
  have hlen := Tord_len hw
  intro R
  induction R with
  | nil =>
    intro D m1 m2 K S σ ho hm1 hm2 hA x rs row hok hv
    obtain ⟨m1, rfl⟩ : ∃ m', m1 = m' + 1 := ⟨m1 - 1, by omega⟩
    obtain ⟨m2, rfl⟩ : ∃ m', m2 = m' + 1 := ⟨m2 - 1, by omega⟩
    rw [List.append_nil] at ho
    refine ⟨S, K, σ, ?_, ?_, hA, kB.rf K, rA1.rf _ σ, fun y hy hb => hv y (by rw [← ho]; exact hy) hb⟩
    · rw [f_X11_findAnew_33, if_pos (show el A ([] : List Nat).head? = none from rfl)]
    · rw [f_valueAnew_59, row.1, ho, if_pos (Int32.le_refl _)]
  | cons e R ih =>
    intro D m1 m2 K S σ ho hm1 hm2 hA x rs row hok hv
    obtain ⟨m1, rfl⟩ : ∃ m', m1 = m' + 1 := ⟨m1 - 1, by omega⟩
    obtain ⟨m2, rfl⟩ : ∃ m', m2 = m' + 1 := ⟨m2 - 1, by omega⟩
    have hl1 : (e :: R).length = R.length + 1 := rfl
    obtain ⟨he, hde⟩ := Tord_is hw (show e ∈ Tord T by rw [ho]; exact List.mem_append_right _ List.mem_cons_self)
    have hP : ∀ y, Tsp T e = some y → ∀ v, v < 3 → okP (rPr σ 1 y v) := fun y hy => hok y (TB_pre hw ho (TB_sp hw he hy).1)
    obtain ⟨σ1, σ2, z, e1, e2, e3, w1, a2, v1, l1, hz, ok1⟩ := r_an hw rs x.2.2.2 he hde hP
    have fr := r_an_fr (z := z) (show e < 30 by omega) w1 a2
    have hnd := Tord_nodup hw
    have ne : ∀ y, y ∈ D → y ≠ e := fun y hy hye => by
      rw [ho] at hnd
      exact (List.nodup_append.mp hnd).2.2 y hy e List.mem_cons_self hye
    have lD : ∀ y, y ∈ D → y < 30 := fun y hy => by
      have := (Tord_is hw (show y ∈ Tord T by rw [ho]; exact List.mem_append_left _ hy)).1
      omega
    have o43 : ∀ p, p < 12 → (up σ2 46 (30 + e) z).1 43 (12 * (30 * 1 + e) + p) = σ1.1 43 (12 * (30 * 1 + e) + p) := fun p hp => by rw [up_o (by decide), a2.2.1 _ (by omega)]
    have oP : ∀ v, v < 3 → rPr (up σ2 46 (30 + e) z) 1 e v = rPr σ1 1 e v := fun v hv3 => by
      unfold rPr
      rw [up_o (by decide), up_o (by decide), (a2.2.2.1 _ (by omega)).1, (a2.2.2.1 _ (by omega)).2]
    have rs' : RS T G (up σ2 46 (30 + e) z) := rs.sB fr.sB (by decide) (by decide)
    have row' : rowS 75 76 (up σ2 46 (30 + e) z) (Tord T) := row.sB fr.sB (by decide) (by decide)
    have x' : ∀ K2 : kS, KX T G A ex K2 σ → KX T G A ex K2 (up σ2 46 (30 + e) z) := fun K2 x2 => x2.cg (fun f hf => fr.1 f (by revert f; decide)) (fun f hf => fr.2.2.2.2 f (fun y => by rw [y] at hf; revert hf; decide))
    have ok' : ∀ y, y ∈ D ++ [e] → ∀ v, v < 3 → okP (rPr (up σ2 46 (30 + e) z) 1 y v) := fun y hy v hv3 => by
      rcases List.mem_append.mp hy with h | h
      · have r := fr.2.2.1 (3 * (30 * 1 + y) + v) (by have := lD y h; omega) (by have := ne y h; omega)
        have : rPr (up σ2 46 (30 + e) z) 1 y v = rPr σ 1 y v := Prod.ext r.1 r.2
        rw [this]; exact hok y h v hv3
      · rw [List.mem_singleton.mp h, oP v hv3]; exact ok1 v hv3
    have ho' : Tord T = (D ++ [e]) ++ R := by rw [ho]; simp
    have hDl : (D ++ [e]).length = D.length + 1 := by rw [List.length_append]; rfl
    have ref := r_vA59 (m := m2) (x1 := x1) (x2 := x2) hlen ho row e1 e2 e3 (w1.2.1 75 (by decide))
    have cs0 := x.1.2.2.2.1.at hw ho
    have go : ∀ (K2 : kS) (S2 : cS), KA A ex K2 S2 → kB AI1 AR1 K K2 → (∀ y, y ∈ D ++ [e] → bt line y = true → vEqv K2 (up σ2 46 (30 + e) z) true y) → f_X11_findAnew_33 (A 49 0) (m1 + 1) line (some (A 0 e)) S = f_X11_findAnew_90 (f_X11_findAnew_33 (A 49 0) m1) (A 49 0) line (some (A 0 e)) S2 → ∃ S' K' σ', f_X11_findAnew_33 (A 49 0) (m1 + 1) line (el A (e :: R).head?) S = some S' ∧ f_valueAnew_59 (m2 + 1) x1 x2 (nI D.length) σ = (f_told x1 x2 1 σ').bind (fun v1 => some (v1, σ')) ∧ KA A ex K' S' ∧ kB AI1 AR1 K K' ∧ rA1 (fun i => 30 ≤ i) σ σ' ∧ ∀ x, x ∈ Tord T → bt line x = true → vEqv K' σ' true x := by
      intro K2 S2 h2 b2 hv2 run
      have x2 := x.va b2.a1q
      obtain ⟨S', K', σ', c1, c2, c3, c4, c5, c6⟩ := ih (D ++ [e]) m1 m2 K2 S2 (up σ2 46 (30 + e) z) ho' (by omega) (by omega) h2 (x' K2 x2) rs' row' ok' hv2
      refine ⟨S', K', σ', ?_, ?_, c3, b2.tr c4, (fr.wd (fun i hi => by omega)).tr c5, c6⟩
      · show f_X11_findAnew_33 (A 49 0) (m1 + 1) line (some (A 0 e)) S = some S'
        rw [run]
        unfold f_X11_findAnew_90
        have cs2 : chS K2 e R := chS_kB cs0 b2 (fun i z => by unfold AR1 at z; omega)
        rw [g17 x2.1.2.1 h2 he (chS_ro cs2), qqx]
        exact c1
      · rw [ref, ← hDl]; exact c2
    cases hb : bt line e with
    | false =>
      refine go K S hA (kB.rf K) (fun y hy hby => ?_) ?_
      · rcases List.mem_append.mp hy with h | h
        · exact (hv y h hby).an (e := e) (lD y h) fr (fun z => ne y h (by omega)) (fun _ => rfl) rfl
        · rw [List.mem_singleton.mp h, hb] at hby; cases hby
      · rw [f_X11_findAnew_33, if_neg (fun z => by cases z), x.1.2.1.gn hA he, qqx, c_isMember _ (by omega), qqx, b2_i0, hb, if_neg (by decide)]
    | true =>
      have anc : kAnc T K σ true e := fun y hy => by
        have hyD := TB_pre hw ho hy
        refine hv y hyD ?_
        rw [hline y (by have := lD y hyD; omega)]
        have hb' := hb
        rw [hline e (by omega)] at hb'
        rcases Bool.or_eq_true .. |>.mp hb' with h | h
        · have := of_decide_eq_true h
          rw [this] at hy
          rw [hy, Bool.or_true]
        · rw [TB_tr hw hy w hwn h, Bool.or_true]
      obtain ⟨S2, K2, run, h2, b2, k1, k2, k3⟩ := c_an hw x hA he hde anc w1 v1 l1 ok1 (line := line) hb
      have b2' : kB AI1 AR1 K K2 := b2.wd (fun k i j z => by unfold AJe at z; unfold AI1; omega) (fun _ _ _ z => z)
      refine go K2 S2 h2 b2' (fun y hy hby => ?_) (run m1)
      rcases List.mem_append.mp hy with h | h
      · have hne := ne y h
        exact (hv y h hby).an (e := e) (lD y h) fr (fun z => hne (by omega)) (fun p => b2.1 _ _ _ (fun z => by unfold AJe at z; omega)) (b2.1 _ _ _ (fun z => by unfold AJe at z; omega))
      · rw [List.mem_singleton.mp h]
        refine ⟨fun p hp => ?_, fun v hv3 => ?_, fun h0 => ?_⟩
        · show K2.1 40 e p = (up σ2 46 (30 + e) z).1 43 (12 * (30 * 1 + e) + p)
          rw [o43 p hp]; exact k1 p hp
        · show okP (rPr (up σ2 46 (30 + e) z) 1 e v) ∧ K2.1 40 e (12 + v) = cod (rPr (up σ2 46 (30 + e) z) 1 e v)
          rw [oP v hv3]; exact ⟨ok1 v hv3, k2 v hv3⟩
        · have h0 : 0 < (up σ2 46 (30 + e) z).1 43 (12 * (30 * 1 + e) + 6) := h0
          rw [o43 6 (by decide)] at h0
          show K2.1 39 e 2 = (up σ2 46 (30 + e) z).1 46 (30 * 1 + e)
          rw [up_s, if_pos (by omega), hz, if_pos h0]; exact k3 h0
theorem c_line (hw : Tw T) (t : KT T ex K) (l : KL T K) (p9 : KP ex K) (hA : KA A ex K S) {ν : Nat → Nat} (hν : ∀ e y, e < Tn T → Tsp T e = some y → ν y < ν e) : ∀ m y (acc : Int32), y < Tn T → ν y + 1 < m → ∃ line, f_X11_findAnew_4 (A 49 0) m acc (some (A 0 y)) S = f_X11_findAnew_33 (A 49 0) 4000 line (some (A 0 0)) S ∧ ∀ x, x < 32 → bt line x = (bt acc x || (decide (x = y) || TB T x y)) := by
  have h30 := hw.n30
  intro m
  induction m with
  | zero => intro y acc _ hm; omega
  | succ m ih =>
    intro y acc hy hm
    rw [f_X11_findAnew_4, if_neg (fun z => by cases z), t.gn hA hy, qqx, g16 t hA l.k16 hy, qqx]
    cases hs : Tsp T y with
    | some z =>
      have hz := (Tsp_cases hw hs).2.1
      have := hν y z hy hs
      obtain ⟨line, e1, e2⟩ := ih z (acc ||| ((1 : Int32) <<< (nI y &&& 31))) hz (by omega)
      refine ⟨line, e1, fun x hx => ?_⟩
      rw [e2 x hx, b_or, b_one (by omega) hx, TB_eq hw hy, hs]
      show ((bt acc x || decide (x = y)) || (decide (x = z) || TB T x z)) = (bt acc x || (decide (x = y) || (z == x || TB T x z)))
      have : (z == x) = decide (x = z) := by
        by_cases c : x = z
        · rw [c]; simp
        · rw [decide_eq_false c]; simpa using fun w => c w.symm
      rw [this, Bool.or_assoc]
    | none =>
      obtain ⟨m, rfl⟩ : ∃ m', m = m' + 1 := ⟨m - 1, by omega⟩
      refine ⟨acc ||| ((1 : Int32) <<< (nI y &&& 31)), ?_, fun x hx => ?_⟩
      · rw [f_X11_findAnew_4, if_pos (el_none A), p9.trees hA, qqx, t.top hA, qqx]
      · rw [b_or, b_one (by omega) hx, TB_eq hw hy, hs, Bool.or_false]
theorem J0.a1 (j : J0 T G L ex K σ v) (r : rA1 (fun i => 30 ≤ i) σ σ') (h30 : Tn T ≤ 30) : J0 T G L ex K σ' v := by
  obtain ⟨t, ca, n, va, mk, ⟨m, s26⟩, d, fr⟩ := j
  have o1 : ∀ f, f ∉ [43, 44, 45, 46, 78] → σ'.1 f = σ.1 f := r.1
  have o2 : ∀ f, f ≠ 79 → σ'.2 f = σ.2 f := r.2.2.2.2
  have ry : ∀ e, e < 30 → rY e σ σ' := fun e he => ⟨fun p hp => r.2.1 _ (by omega) (by omega), fun v hv => r.2.2.1 _ (by omega) (by omega), r.2.2.2.1 _ (by omega), fun p hp => by rw [o1 47 (by decide), o1 55 (by decide), o1 56 (by decide), o1 57 (by decide), o1 58 (by decide)]; exact ⟨rfl, rfl, rfl, rfl, rfl⟩, by rw [o1 59 (by decide)]⟩
  have h48 := o2 48 (by decide)
  exact ⟨t.cg (fun f hf => o1 f (by revert f; decide)) (o2 13 (by decide)), ca.cg (fun f hf => o1 f (by revert f; decide)) (fun f hf => o2 f (fun y => by rw [y] at hf; revert hf; decide)), n.cg (fun f hf => o1 f (by revert f; decide)) (fun f hf => o2 f (fun y => by rw [y] at hf; revert hf; decide)), ⟨fun e he => (va.1 e he).cg (ry e (by omega)) (by rw [h48]) (fun _ _ _ _ _ => rfl), fun e he => by rw [h48, o1 55 (by decide)]; exact va.2.1 e he, fun e he => by rw [h48]; exact va.2.2.1 e he, va.2.2.2⟩, mk.cg (fun f hf => o2 f (fun y => by rw [y] at hf; revert hf; decide)), ⟨m.cg (fun f hf => o1 f (by revert f; decide)), by rw [o2 26 (by decide)]; exact s26⟩, d.cg (fun f hf => o1 f (by revert f; decide)), fr.cg (fun f hf => o1 f (by revert f; decide)) (fun e _ he => ry e he)⟩
theorem scE.a1 (r : rA1 (fun i => 30 ≤ i) σ σ') : scE σ σ' := by
  obtain ⟨r1, r2, r3, r4, r5⟩ := r
  refine ⟨fun f h1 h2 h3 h4 h5 => r1 f (fun z => ?_), fun i hi => r2 i (by omega) (by omega), fun i hi => r3 i (by omega) (by omega), fun i hi => r4 i (by omega), fun f hf => r5 f (fun z => hf (by rw [z]; decide))⟩
  simp only [List.mem_cons, List.not_mem_nil, or_false] at z
  rcases z with z | z | z | z | z
  · exact h2 z
  · exact h3 z
  · exact h4 z
  · exact h5 z
  · exact h1 (by rw [z]; decide)
theorem r_told1 (hw : Tw T) {e p : Nat} (w : vEqv K σ true e) (he : e < Tn T) (hp : p < 15) : f_told (nI e) (nI p) 1 σ = some (K.1 40 e p) := by
  have h30 := hw.n30
  obtain ⟨w1, w2, -⟩ := w
  have ea : (30 : Int32) * 1 + nI e = nI (30 * 1 + e) := by rw [show (30 : Int32) * 1 = nI 30 by decide, nI_add]
  unfold f_told f_told_75
  rw [ea]
  by_cases c : 12 ≤ p
  · obtain ⟨u, rfl⟩ : ∃ u, p = 12 + u := ⟨p - 12, by omega⟩
    have hu : u < 3 := by omega
    have o2 : K.1 40 e (12 + u) = cod (rPr σ 1 e u) := (w2 u hu).2
    have ei : (3 : Int32) * nI (30 * 1 + e) + nI (12 + u) - 12 = nI (3 * (30 * 1 + e) + u) := by
      rw [show (3 : Int32) = nI 3 from rfl, pk_mul, nI_add, show (12 : Int32) = nI 12 from rfl, pk_sub (by omega)]
      congr 1; omega
    rw [if_pos (by rw [show (12 : Int32) = nI 12 from rfl]; exact nI_le (by omega) (by omega)), ei, rd_44 (by omega), qqx, rd_45 (by omega), qqx, o2]
    unfold cod rPr
    by_cases z : (0 : Int32) ≤ σ.1 44 (3 * (30 * 1 + e) + u)
    · rw [if_pos z, qqx, if_neg (Int32.not_lt.mpr z)]
    · rw [if_neg z, if_pos (Int32.not_le.mp z)]
  · have ei : (12 : Int32) * nI (30 * 1 + e) + nI p = nI (12 * (30 * 1 + e) + p) := by rw [show (12 : Int32) = nI 12 from rfl, pk_mul, nI_add]
    have w1' : K.1 40 e p = σ.1 43 (12 * (30 * 1 + e) + p) := w1 p (by omega)
    rw [if_neg (ge12 (by omega)), ei, rd_43 (by omega), qqx, w1']
theorem AI1_ok : ∀ k i j, AI1 k i j → ¬ dTI k i j ∧ ¬ dCI k i j ∧ ¬ dNI k i j ∧ ¬ (6 ≤ k ∧ k ≤ 10) ∧ ¬ (k = 49 ∧ i = 0 ∧ 10 ≤ j ∧ j ≤ 13) ∧ ¬ (17 ≤ k ∧ k ≤ 33) := by
  intro k i j z
  unfold AI1 at z
  unfold dTI dCI dNI
  omega
theorem AR1_ok : ∀ k i j, AR1 k i j → ¬ dTR k i j ∧ ¬ dCR k i j ∧ ¬ dNR k i j ∧ ¬ (17 ≤ k ∧ k ≤ 33) ∧ ¬ (k = 52 ∧ j = 3) := by
  intro k i j z
  unfold AR1 at z
  unfold dTR dCR dNR
  omega
theorem sq_valueAnew {T : qqT} {G : qqG} {L : qqL} {A : kA} {ex : Nat → Nat → Prop} {K : kS} {v nw k : Nat} {S : cS} {σ : mS} (hk : k < 60000) (w : JW k T G L A ex K v nw S σ) (a1 a2 : Int32) : sJR [2, 0, 1] lvN (JP (pf T G σ (P_sc T G σ)) (k + 1)) (f_X11_valueAnew 1 a1 a2 S) (f_valueAnew a1 a2 σ) := by
  obtain ⟨⟨hw, hA, hin⟩, h49, ⟨hv, -, -⟩, j⟩ := id w
  have h30 := hw.n30
  have q := j.1.1
  have rt := j.1.2.2.2
  refine at49 (P := fun x => sJR [2, 0, 1] lvN (JP (pf T G σ (P_sc T G σ)) (k + 1)) (f_X11_valueAnew x a1 a2 S) (f_valueAnew a1 a2 σ)) h49 ?_
  unfold f_X11_valueAnew f_valueAnew f_valueAnew_41 f_X11_valueAnew_20 f_X11_valueAnew_39
  rw [q.2.1.r11 hA, qqx, r_isElement rt hw, qqx]
  rcases ix_cases a1 (n := Tn T) (by omega) with ⟨e, he, rfl⟩ | hx
  · rw [c_elementAt hw q hA he, qqx, if_dt (nI_inn he (by omega)), r_in0 a2 (n := 15) (by decide) (by decide), qqx]
    show sJR _ _ _ ((f_X11_isBelow a2 (nI 15)).bind _) _
    rw [c_isBelow, qqx]
    rcases ix_cases a2 (n := 15) (by decide) with ⟨p, hp, rfl⟩ | hx
    · rw [if_dt (nI_inn hp (by decide)), if_dt (nI_inn hp (by decide)), c_refA0, qqx, r_inDoc hw rt he, qqx]
      show sJR _ _ _ ((gR S (some (A 49 0)) 11 0).bind _) _
      rw [q.2.1.trees hA, qqx, hA.Rc 50 10 (q.2.1.x (by decide) (by decide) (by decide)) rfl, qqx, c_holds hw hA q he, qqx, b2_i0, b2_i0]
      cases hd : TD T e with
      | false =>
        rw [if_neg (by decide), if_neg (by decide), c_refS1, qqx, r_holds3, qqx]
        exact sJR.l rfl (w.no 3)
      | true =>
        rw [if_pos rfl, if_pos rfl, c_refS0, qqx, r_holds0, qqx, if_pos rfl]
        have j0 := j.scR (scR_sf σ 0)
        obtain ⟨S1, K1, σ1, e1, e2, h1, in1, j1, x1, rs1, row1, -, sb1, kb1⟩ := hits_both hw hA hin j0 (by omega)
        have q1 := j1.1.1
        obtain ⟨ν, n1, n2⟩ := Tsp_rk hw
        obtain ⟨line, c1, c2⟩ := c_line hw q1.1 q1.2.2.1 q1.2.1 h1 n2 4000 e 0 he (by have := n1 e he; omega)
        obtain ⟨R0, hR0⟩ := Tord_head hw
        obtain ⟨S2, K2, σ2, d1, d2, h2, b2, r2, v2⟩ := an_loop hw (w := e) (line := line) he (fun x hx => by rw [c2 x hx, b_0, Bool.false_or]) (nI e) (nI p) (Tord T) [] 4000 4000 K1 S1 σ1 rfl (by have := Tord_len hw; omega) (by have := Tord_len hw; omega) h1 x1 rs1 row1 (fun x hx => by cases hx) (fun x hx => by cases hx)
        have j2 : J0 T G L ex K2 σ1 v := j1.kf b2 AI1_ok AR1_ok (j1.2.2.2.2.2.1.1.keep b2 (fun k i j z => by unfold AI1 at z; omega) (fun k i j z => by unfold AR1 at z; omega))
        have j3 := j2.a1 r2 h30
        have q2 := j3.1.1
        have ve := v2 e (Tord_mem hw e he hd) (by rw [c2 e (by omega)]; simp)
        have told := r_told1 hw ve he hp
        have d1' : f_X11_findAnew_33 (A 49 0) 4000 line (some (A 0 0)) S1 = some S2 := by
          have := d1
          rw [hR0] at this
          exact this
        have an1 : f_X11_findAnew (A 49 0) (some (A 0 e)) S1 = some S2 := by
          unfold f_X11_findAnew
          rw [c1]; exact d1'
        have d2' : f_valueAnew_59 4000 (nI e) (nI p) 0 σ1 = some (K2.1 40 e p, σ2) := by
          have := d2
          rw [told, qqx] at this
          exact this
        have ref : (f_ordered (sf σ 81 0)).bind (fun v2 => (f_hits v2).bind (fun v3 => f_valueAnew_59 4000 (nI e) (nI p) 0 v3)) = some (K2.1 40 e p, σ2) := by
          cases ho : f_ordered (sf σ 81 0) with
          | none => rw [ho] at e2; cases e2
          | some τ => rw [ho, qqx] at e2; rw [qqx, e2, qqx]; exact d2'
        rw [ref]
        have st := kSt_of hw q2.1 q2.2.1 j3.1.2.1 true he
        have so : f_X11_styleOf (A 49 0) (some (A 0 e)) 1 S2 = some (some (A 39 e)) := c_styleOf hw q2.1 q2.2.1 h2 true he
        have g0 : gR S2 (some (A 39 e)) 9 0 = some (some (A 40 e)) := st.v h2
        have ap : aI S2 (some (A 40 e)) (nI p) = some (K2.1 40 e p) := st.a h2 hp
        show sJR _ _ _ ((gR S (some (A 49 0)) 11 2).bind _) _
        rw [q.2.1.cascade hA, qqx, q.2.1.r1 hA, qqx, e1, qqx, q1.2.1.r11 h1, qqx, an1, qqx, q2.2.1.r11 h2, qqx, so, qqx, g0, qqx, ap, qqx]
        have f81 : σ2.2 81 = 0 := (r2.2.2.2.2 81 (by decide)).trans ((sb1.2 81 (by decide)).trans rfl)
        have f54 : σ2.2 54 = σ.2 54 := (r2.2.2.2.2 54 (by decide)).trans ((sb1.2 54 (by decide)).trans rfl)
        exact sJR.r rfl f81 (w.to h2 (in1.kp b2 (fun i j z => by unfold AI1 at z; omega)) j3 (by omega) f54 (Or.inr ⟨f81, rfl, rfl, (scE.of (scR_sf σ 0)).tr ((scE.of (sb1.wd (fun _ h => h) (by decide))).tr (scE.a1 r2))⟩))
    · rw [if_df hx, if_df hx, c_refA1, qqx, r_holds2, qqx]
      exact sJR.l rfl (w.no 2)
  · rw [c_elementN hw q hA hx, qqx, if_df hx, r_holds1, qqx]
    exact sJR.l rfl (w.no 1)
end AN2
