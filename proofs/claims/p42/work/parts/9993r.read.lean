section QR
variable {mm : Nat × Nat × Nat}
variable {T T' : qqT} {G G' : qqG} {σ σ' σ0 σ1 σ2 : mS} {hl dr : Bool} {e k n x p s y : Nat} {D R : List Nat} {ch un dn : Int32}
theorem FlI_loop (hw : Tw T) (q3 : ∀ e, e < Tn T → TD T e = true → bt (σ0.2 48) e = true → bt (σ0.2 49) e = false → cons T G σ0 e) (hE : ∀ a, a < 70 → Ldc σ0 10 a = false) (hH : hl = false → ∀ a, a < 70 → Ldc σ0 6 a = false) : ∀ (R D : List Nat) (ch un dn : Int32) (σ : mS) (m : Nat), FlI T G hl σ0 D ch un dn σ → Tord T = D ++ R → R.length < m → ∃ σ' ch' un' dn' n, f_flush_117 m dn ch un (nI D.length) σ = f_flush_117 (n + 1) dn' ch' un' (nI (Tord T).length) σ' ∧ FlI T G hl σ0 (Tord T) ch' un' dn' σ' := by
  intro R
  induction R with
  | nil =>
    intro D ch un dn σ m J ho hm
    rw [List.append_nil] at ho
    obtain ⟨m, rfl⟩ : ∃ m', m = m' + 1 := ⟨m - 1, by omega⟩
    rw [ho]
    refine ⟨σ, ch, un, dn, m, rfl, ?_⟩
    exact J
  | cons e R ih =>
    intro D ch un dn σ m J ho hm
    obtain ⟨m, rfl⟩ : ∃ m', m = m' + 1 := ⟨m - 1, by omega⟩
    have hl' : (e :: R).length = R.length + 1 := rfl
    obtain ⟨σ1, c, pm, hd, e1, J1⟩ := FlI_step hw J ho q3 hE hH
    obtain ⟨σ2, ch2, un2, dn2, n, f1, J2⟩ := ih (D ++ [e]) _ _ _ σ1 m J1 (by rw [ho]; simp) (by omega)
    refine ⟨σ2, ch2, un2, dn2, n, ?_, J2⟩
    rw [e1 m, ← f1]; simp
theorem cntF_P (c : Nat → Bool) : ∀ l : List Nat, cntF c l = nI (l.countP c) := by
  intro l
  induction l with
  | nil => rfl
  | cons x r ih =>
    show (if c x = true then (1 : Int32) else 0) + cntF c r = _
    rw [ih, List.countP_cons]
    by_cases h : c x = true
    · rw [if_pos h, if_pos h, show (1 : Int32) = nI 1 from rfl, nI_add, Nat.add_comm]
    · rw [if_neg h, if_neg h, Int32.zero_add, Nat.add_zero]
theorem J1.sf81 (J : J1 T G σ) (y : Int32) : J1 T G (sf σ 81 y) := by
  have sb : sB [] [81] σ (sf σ 81 y) := ⟨fun _ _ => rfl, fun f hf => sf_o (by simpa using hf)⟩
  obtain ⟨⟨a1, a2, a3⟩, ⟨b1, b2, b3, b4⟩, ⟨c1, c2⟩, d, ⟨e1, e2, e3, e4⟩, f, g⟩ := J
  exact ⟨⟨a1, a2.sB sb (by decide) (by decide), a3.sB sb (by decide) (by decide)⟩, ⟨b1, b2, b3, b4⟩, ⟨c1, c2⟩, d, ⟨e1, e2, e3.cg (fun _ _ => rfl) (sf_o (by decide)), e4⟩, f, g⟩
theorem rdP (J : J1 T G σ) {τ : mS} {L1 L2 : List Nat} (s : sB L1 L2 σ τ) (h1 : ∀ f, f ∈ [0, 4, 6, 7, 8, 9, 10, 11, 12, 27, 28, 29, 30, 32, 33, 14, 15, 16, 17, 18, 19, 21, 22] → f ∉ L1) (h2 : ∀ f, f ∈ [13, 26, 31, 36] → f ∉ L2) : ∃ τ', f_read_90 τ = some τ' ∧ scE τ τ' := by
  have rt := J.1.2.1.sB s (fun f hf => h1 f (by revert f; decide)) (h2 13 (by decide))
  obtain ⟨τ1, e1, b1, o1, p1⟩ := r_ordered J.1.1 rt
  have rt1 : RT T τ1 := rt.sB b1 (by decide) (by decide)
  have rc1 : RC T G τ1 := (J.1.2.2.sB s (fun f hf => h1 f (by revert f; decide)) (fun f hf => h2 f (by revert f; decide))).sB b1 (by decide) (by decide)
  have e : ∀ f, f ∈ [14, 15, 16, 17, 18, 19, 21, 22] → τ1.1 f = σ.1 f := fun f hf => (b1.1 f (by revert f; decide)).trans (s.1 f (h1 f (by revert f; decide)))
  obtain ⟨τ2, e2, b2', h2'⟩ := r_hits J.1.1 rt1 rc1 (fun s hs => by
    have r := J.2.1.1 s hs
    obtain ⟨⟨m, r1, r2, r3, r4⟩, r5, r6, r7⟩ := r
    have hh : ∀ k, qHs τ1 s k = qHs σ s k := fun k => by unfold qHs nTt; rw [e 16 (by decide), e 17 (by decide)]
    have hc : nC τ1 s = nC σ s := by unfold nC; rw [e 14 (by decide)]
    refine ⟨⟨m, r1, r2, by rw [e 14 (by decide)]; exact r3, fun k hk => ?_⟩, by rw [e 21 (by decide)]; exact r5, by rw [e 22 (by decide)]; exact r6, fun z k hk => ?_⟩
    · obtain ⟨q, q1, q2, q3, q4⟩ := r4 k hk
      refine ⟨q, q1, by rw [e 16 (by decide)]; exact q2, by rw [e 15 (by decide)]; exact q3, fun t t2 => ?_⟩
      have := q4 t t2
      unfold RTs at this ⊢
      rw [e 17 (by decide), e 18 (by decide), e 19 (by decide), e 21 (by decide), e 22 (by decide)]
      exact this
    · rw [hh]
      rw [e 22 (by decide)] at z
      rw [hc] at hk
      exact r7 z k hk) ((b1.2 26 (by decide)).trans ((s.2 26 (h2 26 (by decide))).trans J.2.1.2.2.1))
  refine ⟨τ2, ?_, scE.of ((b1.wd (by decide) (by decide)).tr (b2'.wd (by decide) (by decide)))⟩
  unfold f_read_90
  rw [e1, qqx, e2, qqx]
theorem Fl_flush (J : J1 T G σ) (q : Q k mm hl dr T G σ) (hk : k < 60000) : ∃ σ', f_flush σ = some σ' ∧ Q (k + 1) mm hl dr T G σ' ∧ ndB T σ' = false ∧ sB [43, 44, 45, 46, 47, 55, 56, 57, 58, 59, 69, 73, 74, 75, 77, 78, 80, 82, 83, 84, 85] [48, 49, 51, 52, 53, 71, 72, 76, 79] σ σ' := by
  obtain ⟨⟨hw, hr, hc⟩, ⟨hs, hs30, h26, h30s⟩, ⟨hmk, h48d⟩, h25, ⟨hdv, han, hnw, h70⟩, hrow, hfr⟩ := id J
  have h30 := hw.n30
  have h40 := hc.r40
  obtain ⟨τ1, e1, b1, o1, p1⟩ := r_ordered hw hr
  have rt1 : RT T τ1 := hr.sB b1 (by decide) (by decide)
  have rc1 : RC T G τ1 := hc.sB b1 (by decide) (by decide)
  have eq1 : ∀ f, f ∈ [14, 15, 16, 17, 18, 19, 21, 22] → τ1.1 f = σ.1 f := fun f hf => b1.1 f (by revert f; decide)
  obtain ⟨τ2, e2, b2', hit⟩ := r_hits hw rt1 rc1 (fun s hs' => by
    have r := hs s hs'
    obtain ⟨⟨m, r1, r2, r3, r4⟩, r5, r6, r7⟩ := r
    have hh : ∀ k, qHs τ1 s k = qHs σ s k := fun k => by unfold qHs nTt; rw [eq1 16 (by decide), eq1 17 (by decide)]
    have hc : nC τ1 s = nC σ s := by unfold nC; rw [eq1 14 (by decide)]
    refine ⟨⟨m, r1, r2, by rw [eq1 14 (by decide)]; exact r3, fun k hk => ?_⟩, by rw [eq1 21 (by decide)]; exact r5, by rw [eq1 22 (by decide)]; exact r6, fun z k hk => ?_⟩
    · obtain ⟨q, q1, q2, q3, q4⟩ := r4 k hk
      refine ⟨q, q1, by rw [eq1 16 (by decide)]; exact q2, by rw [eq1 15 (by decide)]; exact q3, fun t t2 => ?_⟩
      have := q4 t t2
      unfold RTs at this ⊢
      rw [eq1 17 (by decide), eq1 18 (by decide), eq1 19 (by decide), eq1 21 (by decide), eq1 22 (by decide)]
      exact this
    · rw [hh]
      rw [eq1 22 (by decide)] at z
      rw [hc] at hk
      exact r7 z k hk) ((b1.2 26 (by decide)).trans h26)
  have b12 : sB [73, 74, 75, 77, 78, 80] [71, 72, 76, 79] σ τ2 := (b1.wd (by decide) (by decide)).tr (b2'.wd (by decide) (by decide))
  have rt2 : RT T τ2 := hr.sB b12 (by decide) (by decide)
  have rc2 : RC T G τ2 := hc.sB b12 (by decide) (by decide)
  have an2 : RAn τ2 := han.cg (fun f hf => b12.1 f (by revert f; decide))
  have nw2 : RNw τ2 := hnw.cg (fun f hf => b12.1 f (by revert f; decide)) (b12.2 54 (by decide))
  obtain ⟨τ3, e3, b3, -⟩ := r_fl23 (x2 := 0) (x3 := 0) (x4 := 0) hw an2 nw2 rt2 (fun e he p hp => by rw [b12.1 43 (by decide)]; exact (hrow e he).2.1 p hp) (Tn T) 4000 0 τ2 (by omega) (by omega) (sB.rf τ2) (fun y hy => absurd hy (Nat.not_lt_zero y))
  have hl3 : RLs T L00 τ3 := ⟨(b3.2 70 (by simp)).trans ((b12.2 70 (by decide)).trans h70), by decide, fun k hk => absurd hk (Nat.not_lt_zero k)⟩
  obtain ⟨τ4, e4, b4, -⟩ := r_fl91 (x2 := 0) (x3 := 0) (x4 := 0) hl3 0 4000 0 τ3 rfl (by decide) (sB.rf τ3) (fun j hj => absurd hj (Nat.not_lt_zero j))
  have b14 : sB [69, 73, 74, 75, 77, 78, 80, 85] [71, 72, 76, 79] σ τ4 := (b12.wd (by decide) (by decide)).tr ((b3.wd (by decide) (by simp)).tr (b4.wd (by decide) (by simp)))
  have b24 : sB [69, 85] [] τ2 τ4 := (b3.wd (by decide) (by simp)).tr (b4.wd (by decide) (by simp))
  have g : ∀ f, f ∉ [69, 73, 74, 75, 77, 78, 80, 85] → τ4.1 f = σ.1 f := b14.1
  have rows : ∀ y, rEq σ τ4 y ∧ τ4.1 46 y = σ.1 46 y := fun y => ⟨⟨fun p _ => by rw [g 43 (by decide)], fun v _ => by rw [g 44 (by decide), g 45 (by decide)]; exact ⟨rfl, rfl⟩⟩, by rw [g 46 (by decide)]⟩
  have kp : ∀ e, fEq G σ τ4 e ∧ lEq T T G (hS T G σ) (hS T G τ4) e := fun e => ⟨fEq.of (fun f hf => g f (by revert f; decide)) (b14.2 50 (by decide)), hS_same (fun f hf => g f (by revert f; decide)) (g 30 (by decide))⟩
  obtain ⟨⟨q1, q2, q3⟩, q4, q5, ⟨q6, q7⟩, ⟨ca, cb, cc, q8, q9, q10, q11, q12, q13⟩, q14⟩ := q
  have q4' : ∀ e, e < Tn T → TD T e = true → bt (τ4.2 48) e = true → bt (τ4.2 49) e = false → cons T G τ4 e := fun e he hd h48 h49 => by
    rw [b14.2 48 (by decide)] at h48
    rw [b14.2 49 (by decide)] at h49
    exact cons_keep h40 ⟨(kp e).1, (kp e).2, rfl, hsz_rows hw (fun y _ => rows y) he⟩ (rows e).1 (fun y _ => (rows y).1) (fun _ => by rw [g 43 (by decide)]) (q4 e he hd h48 h49)
  have e37 : τ4.1 37 = σ.1 37 := g 37 (by decide)
  have S0 : FlI T G hl τ4 [] 0 0 0 τ4 := by
    refine ⟨⟨⟨⟨rt2.sB b24 (by decide) (by decide), rc2.sB b24 (by decide) (by decide), fun z hz => ?_⟩, an2.cg (fun f hf => b24.1 f (by revert f; decide)), nw2.cg (fun f hf => b24.1 f (by revert f; decide)) (b24.2 54 (by simp)), ⟨(b24.2 70 (by simp)).trans ((b12.2 70 (by decide)).trans h70), by decide, fun k hk => absurd hk (Nat.not_lt_zero k)⟩⟩, (o1.sB b2' (by decide) (by decide)).sB b24 (by decide) (by decide), hdv.cg9 (fun f hf => g f (by revert f; decide)), hit.cg9 (fun f hf => b24.1 f (by revert f; decide))⟩, ⟨sB.rf _, fun y _ _ => rY.rf _⟩, fun z hz => ⟨fun v hv => ?_, fun p hp => by rw [g 43 (by decide)]; exact (hrow z hz).2.1 p hp⟩, ⟨fun z _ _ => ⟨b_0 z, b_0 z, b_0 z⟩, fun z _ => by rw [decide_eq_false (by simp), Bool.or_false]⟩, fun z hz => (by cases hz), fun z hz => (by cases hz), fun z hz => (by cases hz), ?_, fun z hz p hp => by rw [g 55 (by decide)]; exact q7 z hz p hp, fun w z hz => by rw [g 43 (by decide)]; exact (q14 w).2 z hz⟩
    · rw [b24.1 77 (by decide), b2'.1 77 (by decide)]; exact p1 z hz
    · have := (hrow z hz).1 v hv
      unfold rPr at this ⊢
      rw [g 44 (by decide), g 45 (by decide)]
      exact this
    · exact (Int32.add_zero _).symm
  have hlen := Tord_len hw
  obtain ⟨σ5, ch, un, dn, n, f1, J5⟩ := FlI_loop hw q4' (fun a ha => by rw [Ldc_cg e37]; exact (q6 a ha).1) (fun z a ha => by rw [Ldc_cg e37]; exact (q14 z).1 a ha) (Tord T) [] 0 0 0 τ4 4000 S0 rfl (by omega)
  obtain ⟨⟨⟨j1, j2, j3, j4⟩, j5, j6, j7⟩, ⟨j8, j9⟩, j10, ⟨j11, j12⟩, j13, j14, j15, j16, j17, j18⟩ := J5
  have sb5 : sB [43, 44, 45, 46, 47, 55, 56, 57, 58, 59, 69, 73, 74, 75, 77, 78, 80, 82, 83, 84, 85] [48, 52, 71, 72, 76, 79] σ σ5 := (b14.wd (by decide) (by decide)).tr (j8.wd (by decide) (by decide))
  have f318 := r_flush_318 (σ := σ5) (dn := dn) (o9 := bt (gAl G σ) 14) (o8 := bt (gAl G σ) 14) (h9 := bt (gAl G σ) 15) hw j1 j5 (fun v => flg1 (σ2 := sf σ5 53 v) J (sb5.1 25 (by decide)) (sb5.1 33 (by decide)) ((sf_o (by decide)).trans (sb5.2 36 (by decide)))) rfl (fun x hx hxo => (j11 x hx hxo).2.2) (Tord T) [] 4000 (σ5.2 53) rfl (by omega)
  rw [sf_id] at f318
  generalize hσ6 : sf (sf (sf σ5 53 (σ5.2 53 + cntF (shT T σ5 (bt (gAl G σ) 14) (bt (gAl G σ) 15) dn) (Tord T))) 49 0) 51 (σ5.2 51 + 1) = σ6 at f318
  have s1 : σ6.1 = σ5.1 := by rw [← hσ6]; rfl
  have so : ∀ f, f ≠ 53 → f ≠ 49 → f ≠ 51 → σ6.2 f = σ5.2 f := fun f a1 a2 a3 => by rw [← hσ6, sf_o a3, sf_o a2, sf_o a1]
  have s49 : σ6.2 49 = 0 := by rw [← hσ6, sf_o (by decide), sf_s]
  have s51 : σ6.2 51 = σ5.2 51 + 1 := by rw [← hσ6, sf_s]
  have s53 : σ6.2 53 = σ5.2 53 + cntF (shT T σ5 (bt (gAl G σ) 14) (bt (gAl G σ) 15) dn) (Tord T) := by rw [← hσ6, sf_o (by decide), sf_o (by decide), sf_s]
  have sb6 : sB [43, 44, 45, 46, 47, 55, 56, 57, 58, 59, 69, 73, 74, 75, 77, 78, 80, 82, 83, 84, 85] [48, 49, 51, 52, 53, 71, 72, 76, 79] σ σ6 := (sb5.wd (fun _ h => h) (by decide)).tr ⟨fun f _ => by rw [s1], fun f hf => so f (fun z => hf (by rw [z]; decide)) (fun z => hf (by rw [z]; decide)) (fun z => hf (by rw [z]; decide))⟩
  have mem : ∀ e, e < Tn T → TD T e = true → e ∈ Tord T := fun e he hd => Tord_mem hw e he hd
  have kq : ∀ e, fEq G σ5 σ6 e ∧ lEq T T G (hS T G σ5) (hS T G σ6) e := fun e => ⟨fEq.of (fun f _ => by rw [s1]) (so 50 (by decide) (by decide) (by decide)), hS_same (fun f _ => by rw [s1]) (by rw [s1])⟩
  have rq : ∀ y, rEq σ5 σ6 y ∧ σ6.1 46 y = σ5.1 46 y := fun y => ⟨⟨fun p _ => by rw [s1], fun v _ => by rw [s1]; exact ⟨rfl, rfl⟩⟩, by rw [s1]⟩
  refine ⟨σ6, ?_, ⟨⟨fun s hs' => (q1 s hs').cg (fun f hf => sb6.1 f (by revert f; decide)), by rw [sb6.1 22 (by decide), sb6.1 21 (by decide)]; exact q2, by rw [sb6.1 22 (by decide), sb6.1 21 (by decide)]; exact q3⟩, fun e he hd _ _ => ?_, fun _ e he hd => ?_, ⟨fun a ha => ?_, fun e he p hp => by rw [s1]; exact j17 e he p hp⟩, ?_, fun z => ⟨fun a ha => ?_, fun e he => by rw [s1]; exact j18 z e he⟩⟩, ?_, sb6⟩
  · unfold f_flush
    rw [e1, qqx, e2, qqx, r_docMask hw rt2, qqx]
    have e3' : f_flush_23 4000 (qqM (TD T) (Tn T)) 0 0 0 0 τ2 = f_flush_91 4000 0 0 0 (nI 0) τ3 := e3
    have f1' : f_flush_117 4000 0 0 0 (nI 0) τ4 = _ := f1
    rw [e3', e4, f1', f_flush_117, j5.1, if_pos (Int32.le_refl _)]
    exact f318
  · exact cons_keep h40 ⟨(kq e).1, (kq e).2, rfl, hsz_rows hw (fun y _ => rq y) he⟩ (rq e).1 (fun y _ => (rq y).1) (fun _ => by rw [s1]) (j13 e (mem e he hd)).1
  · exact size_keep hw hw he he h40 (fun _ => Iff.rfl) (fun x _ => kq x) (rq e).1 (rq e).2 (by rw [s1]) (j13 e (mem e he hd)).2
  · have : σ6.1 37 = σ.1 37 := sb6.1 37 (by decide)
    rw [Ldc_cg this, Ldc_cg this]; exact q6 a ha
  · have c1 : (Tord T).countP (shT T σ5 (bt (gAl G σ) 14) (bt (gAl G σ) 15) dn) ≤ (Tord T).countP (bt dn) := List.countP_mono_left (fun x _ h => by
      unfold shT at h
      rw [Bool.and_eq_true] at h
      exact h.1)
    have c2 : (Tord T).countP (bt dn) ≤ 30 := Nat.le_trans List.countP_le_length hlen
    refine ⟨ca + 1, cb + (Tord T).countP (bt dn), cc + (Tord T).countP (shT T σ5 (bt (gAl G σ) 14) (bt (gAl G σ) 15) dn), ?_, ?_, ?_, by omega, by omega, by omega, by omega, by omega, by omega⟩
    · rw [s51, sb5.2 51 (by decide), q8, show (1 : Int32) = nI 1 from rfl, nI_add]
    · rw [so 52 (by decide) (by decide) (by decide), j16, b14.2 52 (by decide), q9, nI_add]
    · rw [s53, sb5.2 53 (by decide), q10, cntF_P, nI_add]
  · have : σ6.1 37 = σ.1 37 := sb6.1 37 (by decide)
    rw [Ldc_cg this]; exact (q14 z).1 a ha
  · refine (nd_is T σ6).mpr (fun e he hd => ⟨?_, by rw [s49, b_0]⟩)
    rw [so 48 (by decide) (by decide) (by decide), j12 e (by omega), decide_eq_true (mem e he hd), Bool.or_true]
theorem Q_rd (J : J1 T G σ) (q : Q k mm hl dr T G σ) (hk : k < 60000) (e : f_read (sf σ 81 0) = some σ') : Q (k + 1) mm hl dr T G σ' ∧ ndB T σ' = false := by
  have hw := J.1.1
  have h40 := J.1.2.2.r40
  have J0 := J.sf81 0
  have q0 : Q k mm hl dr T G (sf σ 81 0) := Q_sc0 hw h40 q (scE.of (scR_sf σ 0))
  have nd9 : ∀ τ τ' : mS, scE τ τ' → ndB T τ' = ndB T τ := fun τ τ' s => by unfold ndB; rw [s.2.2.2.2 48 (by decide), s.2.2.2.2 49 (by decide)]
  unfold f_read at e
  rw [show (4000 : Nat) = 3999 + 1 from rfl, f_read_2, if_neg (by decide), r_needs hw J0.1.2.1, qqx, b2_i0] at e
  cases hn : ndB T (sf σ 81 0) with
  | false =>
    rw [hn, if_neg (by decide)] at e
    obtain ⟨τ', e1, s1⟩ := rdP J0 (sB.rf (sf σ 81 0)) (L1 := []) (L2 := []) (by simp) (by simp)
    rw [e] at e1
    cases e1
    exact ⟨Q_sc0 hw h40 q0 s1, by rw [nd9 _ _ s1, hn]⟩
  | true =>
    rw [hn, if_pos rfl] at e
    obtain ⟨σ2, e2, q2, n2, s2⟩ := Fl_flush J0 q0 hk
    have rt2 : RT T σ2 := J0.1.2.1.sB s2 (by decide) (by decide)
    rw [e2, qqx, show (4000 : Nat) = 3999 + 1 from rfl, f_read_20, s2.2 70 (by decide), J0.2.2.2.2.1.2.2.2, if_pos (show (0 : Int32) ≤ 0 by decide), show (3999 : Nat) = 3998 + 1 from rfl, f_read_2, if_neg (by decide), r_needs hw rt2, qqx, n2, if_pos (show b2 false = 0 from rfl)] at e
    obtain ⟨τ', e1, s1⟩ := rdP J0 s2 (by decide) (by decide)
    rw [e] at e1
    cases e1
    exact ⟨Q_sc0 hw h40 q2 s1, by rw [nd9 _ _ s1, n2]⟩
end QR
