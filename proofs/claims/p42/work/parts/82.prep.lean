def PRI (k i j : Nat) : Prop := SOI k i j ∨ (k = 11 ∧ (j = 12 ∨ j = 13))
def prM (T : qqT) (G : qqG) (σ : mS) (r : Nat) : Int32 := if Lst T G σ r = true then qMs T σ (Gsh G (Gsf G r)) (Gse G r) else 0
section CPR
variable {T : qqT} {G : qqG} {A : kA} {ex : Nat → Nat → Prop} {K K' : kS} {S : cS} {σ : mS} {v : Nat}
theorem KC.pr (c : KC T G ex K σ) (b : kB PRI F3 K K') : KC T G ex K' σ := by
  obtain ⟨c1, c2, c3, c4, c5⟩ := c
  have eI : ∀ k i j, ¬ PRI k i j → K'.1 k i j = K.1 k i j := b.1
  have eR : ∀ k i j, K'.2 k i j = K.2 k i j := fun k i j => b.2 k i j (fun z => z)
  refine ⟨fun k hk => ?_, fun r hr => ?_, fun e he => ?_, ?_, fun s hs => ?_⟩
  · rw [eI 16 k 0 (by unfold PRI SOI; omega), eI 16 k 1 (by unfold PRI SOI; omega), eR 16 k 2, eI 16 k 3 (by unfold PRI SOI; omega), eI 16 k 4 (by unfold PRI SOI; omega), eR 59 0 k]
    exact c1 k hk
  · rw [eI 11 r 0 (by unfold PRI SOI; omega), eR 11 r 1, eR 11 r 2, eI 11 r 3 (by unfold PRI SOI; omega), eI 11 r 4 (by unfold PRI SOI; omega), eI 11 r 5 (by unfold PRI SOI; omega), eR 11 r 8, eR 11 r 9, eR 11 r 10, eR 11 r 11, eR 11 r 14, eR 60 0 r]
    exact c2 r hr
  · rw [eR 1 e 1, eR 1 e 2, eI 1 e 3 (by unfold PRI SOI; omega), eR 1 e 8, eR 1 e 9, eR 1 e 10, eR 1 e 11]
    exact c3 e he
  · rw [eI 58 0 4 (by unfold PRI SOI; omega), eI 58 0 5 (by unfold PRI SOI; omega), eI 58 0 8 (by unfold PRI SOI; omega), eR 58 0 6, eR 58 0 7]
    exact c4
  · rw [eI 17 s 6 (by unfold PRI SOI; omega)]
    exact c5 s hs
theorem KQ.pr (q : KQ T ex K) (b : kB PRI F3 K K') : KQ T ex K' := ⟨q.1.keep b (fun i => by unfold PRI SOI; omega) (fun i => ⟨fun _ _ _ z => z, fun z => z, fun z => z, fun z => z, fun z => z, fun z => z, fun _ z => z⟩), q.2.1.keep b (fun _ _ _ z => z.elim), q.2.2.1.keep b (fun i => by unfold PRI SOI; omega) (fun i => ⟨fun z => z, fun z => z, fun z => z⟩), q.2.2.2.keep b (fun _ z => z)⟩
theorem c_isThere (hw : Tw T) (q : KQ T ex K) (hc : RC T G σ) (c : KC T G ex K σ) (hA : KA A ex K S) {k : Nat} (hk : k < Gk G) : f_X1_isThere (A 58 0) (some (A 16 k)) S = some (b2 (match Gsh G k with
    | none => true
    | some h => TD T h)) := by
  obtain ⟨x16, -, -, s2, -⟩ := c.1 k hk
  have g2 : gR S (some (A 16 k)) 8 2 = some (el A (Gsh G k)) := by rw [hA.R 16 8 x16 rfl, s2, el_kp]
  unfold f_X1_isThere f_X1_isThere_21 f_X1_isThere_26
  rw [g2, qqx]
  cases hh : Gsh G k with
  | none => rw [if_pos (show el A none = none from rfl)]; rfl
  | some x =>
    have hx := (hc.hn hk hh).1
    rw [if_neg (show ¬ el A (some x) = none from fun z => by cases z), hA.R 58 1 (q.2.1.x (by decide) (by decide) (by decide)) rfl, q.2.1.2.2.2.1.1, qqx, qqx]
    show ((rc S (some (A 50 0)) 10).bind _) = some (b2 (TD T x))
    rw [q.1.r10 hA, qqx, el_some, c_holds hw hA q hx, qqx, b2_i0]
    cases TD T x <;> rfl
theorem Lst_eq (r : Nat) : Lst T G σ r = (decide (σ.1 30 (Gsf G r) = 1) && (match Gsh G (Gsf G r) with
    | none => true
    | some h => TD T h)) := rfl
theorem c_prepare (hw : Tw T) (q : KQ T ex K) (ke : KE T K σ) (m : KMt T G ex K σ v) (hv : v < 2 ^ 31) (hc : RC T G σ) (c : KC T G ex K σ) (hA : KA A ex K S) : ∃ S' K', f_X1_prepare (A 58 0) S = some S' ∧ KA A ex K' S' ∧ KMt T G ex K' σ v ∧ kB PRI F3 K K' ∧ ∀ r, r < Gr G → K'.1 11 r 12 = dpo T (Gsh G (Gsf G r)) ∧ K'.1 11 r 13 = prM T G σ r := by
  have h30 := hw.n30
  have r40 := hc.r40
  have key : ∀ d m9 r (K1 : kS) (S1 : cS), r + d = Gr G → d < m9 → KA A ex K1 S1 → KMt T G ex K1 σ v → kB PRI F3 K K1 → (∀ j, j < r → K1.1 11 j 12 = dpo T (Gsh G (Gsf G j)) ∧ K1.1 11 j 13 = prM T G σ j) → ∃ S' K', f_X1_prepare_5 (A 58 0) m9 (if r < Gr G then some (A 11 r) else none) S1 = some S' ∧ KA A ex K' S' ∧ KMt T G ex K' σ v ∧ kB PRI F3 K K' ∧ ∀ r, r < Gr G → K'.1 11 r 12 = dpo T (Gsh G (Gsf G r)) ∧ K'.1 11 r 13 = prM T G σ r := by
    intro d
    induction d with
    | zero =>
      intro m9 r K1 S1 hr hm h1 mm1 b1 done
      obtain ⟨m9, rfl⟩ : ∃ m', m9 = m' + 1 := ⟨m9 - 1, by omega⟩
      have hr : r = Gr G := by omega
      subst hr
      rw [if_neg (Nat.lt_irrefl _), f_X1_prepare_5, if_pos rfl]
      exact ⟨S1, K1, rfl, h1, mm1, b1, done⟩
    | succ d ih =>
      intro m9 r K1 S1 hr hm h1 mm1 b1 done
      obtain ⟨m9, rfl⟩ : ∃ m', m9 = m' + 1 := ⟨m9 - 1, by omega⟩
      have hrn : r < Gr G := by omega
      have c1 := c.pr b1
      have q1 := q.pr b1
      obtain ⟨xr, i0, i1, i2, i3, i4, i5, i8, i9, i10, i11, i14, i60⟩ := c1.2.1 r hrn
      have x11 : ex 11 r := xr 11 (by decide) (by decide)
      have hk := (hc.f hrn).2
      have hs := (hc.e hrn).2
      obtain ⟨x16, s0, s1, s2, s3, s4, -⟩ := c1.1 _ hk
      rw [if_pos hrn, f_X1_prepare_5, if_neg (fun z => by cases z), h1.R 11 6 x11 rfl, i1, qqx, show Option.map (kp A) (some (16, Gsf G r)) = some (A 16 (Gsf G r)) from rfl, if_neg (fun z => by cases z), h1.I 16 8 x16 rfl, s4, qqx]
      have f94 : ∀ (K2 : kS) (S2 : cS) (y : Int32), KA A ex K2 S2 → KMt T G ex K2 σ v → kB PRI F3 K K2 → (∀ j, j < r → K2.1 11 j 12 = dpo T (Gsh G (Gsf G j)) ∧ K2.1 11 j 13 = prM T G σ j) → K2.1 11 r 13 = prM T G σ r → y = dpo T (Gsh G (Gsf G r)) → ∃ S' K', f_X1_prepare_94 (f_X1_prepare_5 (A 58 0) m9) (A 58 0) (some (A 11 r)) (some (A 11 r)) y S2 = some S' ∧ KA A ex K' S' ∧ KMt T G ex K' σ v ∧ kB PRI F3 K K' ∧ ∀ r, r < Gr G → K'.1 11 r 12 = dpo T (Gsh G (Gsf G r)) ∧ K'.1 11 r 13 = prM T G σ r := by
        intro K2 S2 y h2 mm2 b2' done2 e13 hy
        obtain ⟨S3, e3, h3⟩ := h2.PI (k := 11) (i := r) (t := 6) (j := 12) x11 rfl (by decide) y
        have b3 : kB PRI F3 K2 (kwI K2 11 r 12 y) := (kB.rf K2).I (Or.inr ⟨rfl, Or.inl rfl⟩)
        have c3 := (c.pr (b2'.tr b3)).2.1 r hrn
        unfold f_X1_prepare_94
        rw [e3, qqx, h3.R 11 6 x11 rfl, c3.2.2.2.2.2.2.2.2.2.2.2.1, qqx]
        have nx := ih m9 (r + 1) _ S3 (by omega) (by omega) h3 (mm2.keep ((kB.rf K2).I (PI := fun k i j => k = 11 ∧ i = r ∧ j = 12) (PR := F3) ⟨rfl, rfl, rfl⟩) (fun k i j z => by omega) (fun _ _ _ z => z.elim)) (b2'.tr b3) (fun j hj => by
          by_cases cj : j = r
          · subst cj; rw [kwI_s, kwI_j (by decide)]; exact ⟨hy, e13⟩
          · rw [kwI_i cj, kwI_i cj]; exact done2 j (by omega))
        by_cases cc : r + 1 < Gr G
        · rw [if_pos cc] at nx ⊢; exact nx
        · rw [if_neg cc] at nx ⊢; exact nx
      have f63 : ∀ (K2 : kS) (S2 : cS) (y : Int32), KA A ex K2 S2 → KMt T G ex K2 σ v → kB PRI F3 K K2 → (∀ j, j < r → K2.1 11 j 12 = dpo T (Gsh G (Gsf G j)) ∧ K2.1 11 j 13 = prM T G σ j) → y = prM T G σ r → ∃ S' K', f_X1_prepare_63 (f_X1_prepare_5 (A 58 0) m9) (A 58 0) (some (A 11 r)) (some (A 16 (Gsf G r))) (some (A 11 r)) y S2 = some S' ∧ KA A ex K' S' ∧ KMt T G ex K' σ v ∧ kB PRI F3 K K' ∧ ∀ r, r < Gr G → K'.1 11 r 12 = dpo T (Gsh G (Gsf G r)) ∧ K'.1 11 r 13 = prM T G σ r := by
        intro K2 S2 y h2 mm2 b2' done2 hy
        obtain ⟨S3, e3, h3⟩ := h2.PI (k := 11) (i := r) (t := 6) (j := 13) x11 rfl (by decide) y
        have b3 : kB PRI F3 K2 (kwI K2 11 r 13 y) := (kB.rf K2).I (Or.inr ⟨rfl, Or.inr rfl⟩)
        have b23 := b2'.tr b3
        have c3 := c.pr b23
        have q3 := q.pr b23
        have mm3 : KMt T G ex (kwI K2 11 r 13 y) σ v := mm2.keep ((kB.rf K2).I (PI := fun k i j => k = 11 ∧ i = r ∧ j = 13) (PR := F3) ⟨rfl, rfl, rfl⟩) (fun k i j z => by omega) (fun _ _ _ z => z.elim)
        have done3 : ∀ j, j < r → (kwI K2 11 r 13 y).1 11 j 12 = dpo T (Gsh G (Gsf G j)) ∧ (kwI K2 11 r 13 y).1 11 j 13 = prM T G σ j := fun j hj => by
          rw [kwI_i (show j ≠ r by omega), kwI_i (show j ≠ r by omega)]; exact done2 j hj
        have e13 : (kwI K2 11 r 13 y).1 11 r 13 = prM T G σ r := by rw [kwI_s]; exact hy
        unfold f_X1_prepare_63 f_X1_prepare_78
        rw [e3, qqx, if_neg (fun z => by cases z), h3.R 16 8 x16 rfl, (c3.1 _ hk).2.2.2.1, qqx, el_kp]
        cases hh : Gsh G (Gsf G r) with
        | none =>
          rw [if_pos (show el A none = none from rfl)]
          exact f94 _ S3 0 h3 mm3 b23 done3 e13 (by rw [hh]; rfl)
        | some x =>
          have hx := (hc.hn hk hh).1
          rw [if_neg (show ¬ el A (some x) = none from fun z => by cases z), qqx, el_some, q3.1.g18 h3 hx, qqx, h3.I 1 6 (q3.1.E hx (by decide)) rfl, qqx, (q3.2.2.1.1 x hx).2.2.2, nI_1]
          exact f94 _ S3 _ h3 mm3 b23 done3 e13 (by rw [hh]; rfl)
      have dead : Lst T G σ r = false → ∃ S' K', f_X1_prepare_37 (f_X1_prepare_5 (A 58 0) m9) (A 58 0) (some (A 11 r)) (some (A 16 (Gsf G r))) S1 = some S' ∧ KA A ex K' S' ∧ KMt T G ex K' σ v ∧ kB PRI F3 K K' ∧ ∀ r, r < Gr G → K'.1 11 r 12 = dpo T (Gsh G (Gsf G r)) ∧ K'.1 11 r 13 = prM T G σ r := by
        intro hl
        unfold f_X1_prepare_37 f_X1_prepare_38
        rw [if_pos rfl]
        exact f63 K1 S1 0 h1 mm1 b1 done (by unfold prM; rw [hl, if_neg (by decide)])
      obtain ⟨bo, hbo⟩ := (hc.2.2.1 _ hk).2.2.2.2
      rw [hbo, b2_i0]
      have hLst := Lst_eq (T := T) (G := G) (σ := σ) r
      rw [hbo] at hLst
      cases bo with
      | false => rw [if_neg (by decide)]; exact dead (by rw [hLst, decide_eq_false (by decide)]; rfl)
      | true =>
        rw [show decide (b2 true = 1) = true from by decide, Bool.true_and] at hLst
        rw [if_pos rfl, q1.2.1.r1 h1, qqx, c_isThere hw q1 hc c1 h1 hk, qqx, b2_i0, ← hLst]
        cases hl : Lst T G σ r with
        | false => rw [if_neg (by decide)]; exact dead hl
        | true =>
          rw [if_pos rfl]
          unfold f_X1_prepare_38
          rw [if_neg (by decide), h1.R 58 1 (q1.2.1.x (by decide) (by decide) (by decide)) rfl, q1.2.1.2.2.2.1.2.1, qqx, h1.R 11 6 x11 rfl, i2, qqx, h1.R 16 8 x16 rfl, s2, qqx, el_kp]
          show ∃ S' K', ((rc S1 (some (A 52 0)) 5).bind _) = some S' ∧ _
          rw [q1.2.1.r5 h1, qqx]
          obtain ⟨S2, K2, e2, h2, mm2, b2'⟩ := c_setOf (h := Gsh G (Gsf G r)) hw q1 (ke.keep b1 (fun i j _ _ => by unfold PRI SOI; omega)) mm1 hv h1 hs (fun x hx => (hc.hn hk hx).1)
          have e2' : f_X5_setOf (A 52 0) (Option.map (kp A) (some (17, Gse G r))) (el A (Gsh G (Gsf G r))) S1 = some (qMs T σ (Gsh G (Gsf G r)) (Gse G r), S2) := e2
          rw [e2', qqx]
          exact f63 K2 S2 _ h2 mm2 (b1.tr (b2'.wd (fun _ _ _ z => Or.inl z) (fun _ _ _ z => z))) (fun j hj => by rw [b2'.1 11 j 12 (by unfold SOI; omega), b2'.1 11 j 13 (by unfold SOI; omega)]; exact done j hj) (by unfold prM; rw [hl, if_pos rfl])
  unfold f_X1_prepare
  rw [hA.R 58 1 (q.2.1.x (by decide) (by decide) (by decide)) rfl, c.2.2.2.1.2.2.2.1, qqx]
  have := key (Gr G) 4000 0 K S (by omega) (by omega) hA m (kB.rf K) (fun j hj => absurd hj (Nat.not_lt_zero j))
  by_cases cc : 0 < Gr G
  · rw [if_pos cc] at this ⊢; exact this
  · rw [if_neg cc] at this ⊢; exact this
theorem KPr.of {σ' : mS} (hw : Tw T) (hh : hitS T G σ') (h : ∀ f, f ∈ [0, 1, 2, 3, 4, 5, 14, 15, 16, 17, 18, 19, 21, 30] → σ'.1 f = σ.1 f) (p : ∀ r, r < Gr G → K.1 11 r 12 = dpo T (Gsh G (Gsf G r)) ∧ K.1 11 r 13 = prM T G σ r) : KPr T G K σ' := by
  intro r hr
  refine ⟨(p r hr).1, fun e he => ?_⟩
  have hl : Lst T G σ' r = Lst T G σ r := by unfold Lst; rw [h 30 (by decide)]
  rw [(p r hr).2, hh r hr, qMs_cg (σ := σ) (fun f hf => h f (by revert f; decide)), hl]
  unfold prM
  cases Lst T G σ r with
  | true => rw [if_pos rfl, Bool.true_and]
  | false => rw [if_neg (by decide), b_0, Bool.false_and]
end CPR
