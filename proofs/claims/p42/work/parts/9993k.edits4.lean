section QK
variable {mm : Nat × Nat × Nat}
variable {T T' : qqT} {G G' : qqG} {σ σ' σ1 : mS} {hl dr dr' hl' : Bool} {e k n x b N s : Nat} {h : Option Nat}
theorem Q_ts {x1 : Int32} (J : J1 T G σ) (q : Q k mm hl false T G σ) (p : P_ts T G σ x1 T' G' σ') (hd : dr' = false → x1 ≠ 8 ∧ x1 ≠ 9) : Q (k + 1) mm hl dr' T' G' σ' := by
  obtain ⟨rfl, rfl, g2, kk, c, x2, x3, hkk, hc, hc4, ⟨s1, s2, -, s4, s5⟩, p21, p22⟩ := p
  have g30 := J.2.1.2.2.2
  have nn := J.2.1.2.1.n
  obtain ⟨d0, d1⟩ := q.1.2.2 rfl
  have f1 : ∀ f, f ∉ [16, 17, 18, 19, 21, 22] → σ'.1 f = σ.1 f := fun f hf => s1.1 f hf
  have sg : ∀ f, f ∈ [48, 49, 50, 51, 52, 53] → σ'.2 f = σ.2 f := fun f hf => (g2 f).trans (sf_o (fun z => by rw [z] at hf; revert hf; decide))
  refine Q_ag J q ⟨fun s hs => ⟨by rw [f1 14 (by decide)], (s5 s (by omega)).1, (s5 s (by omega)).2⟩, fun i hi => ⟨by rw [f1 15 (by decide)], s2.2 i (by omega)⟩, fun i hi => s4 i (by omega), fun f hf => f1 f (by revert f; decide)⟩ (fun s _ => ⟨by rw [f1 20 (by decide)], by rw [f1 23 (by decide)], by rw [f1 24 (by decide)], by rw [f1 25 (by decide)]⟩) (fun f hf => f1 f (by revert f; decide)) sg (fun z => ?_) (fun z => ?_)
  · rw [p22] at z
    by_cases c8 : x1 = 8
    · rw [p21, if_neg (by rw [c8]; decide)]; exact d1
    · rw [if_neg c8, d0] at z; exact absurd z (by decide)
  · obtain ⟨n8, n9⟩ := hd z
    rw [p21, p22, if_neg n8, if_neg n9]
    exact ⟨d0, d1⟩
theorem Q_jn (J : J1 T G σ) (q : Q k mm hl dr T G σ) (p : P_jn T G σ T' G' σ') : Q (k + 1) mm hl dr T' G' σ' := by
  obtain ⟨rfl, rfl, m, y, hm, m1, m4, hy, rfl⟩ := p
  have g30 := J.2.1.2.2.2
  have f1 : ∀ f, f ≠ 14 → f ≠ 15 → (up (up (sf σ 81 0) 15 (120 + m) (nI y)) 14 30 (nI (m + 1))).1 f = σ.1 f := fun f h1 h2 => (up_o h1).trans (up_o h2)
  have sg : ∀ f, f ∈ [48, 49, 50, 51, 52, 53] → (up (up (sf σ 81 0) 15 (120 + m) (nI y)) 14 30 (nI (m + 1))).2 f = σ.2 f := fun f hf => by
    rw [up_2, up_2, sf_o (fun z => by rw [z] at hf; revert hf; decide)]
  refine Q_ag J q ⟨fun s hs => ⟨?_, by rw [f1 21 (by decide) (by decide)], by rw [f1 22 (by decide) (by decide)]⟩, fun i hi => ⟨?_, by rw [f1 16 (by decide) (by decide)]⟩, fun i hi => by rw [f1 17 (by decide) (by decide), f1 18 (by decide) (by decide), f1 19 (by decide) (by decide)]; exact ⟨rfl, rfl, rfl⟩, fun f hf => f1 f (fun z => by rw [z] at hf; revert hf; decide) (fun z => by rw [z] at hf; revert hf; decide)⟩ (fun s _ => ⟨by rw [f1 20 (by decide) (by decide)], by rw [f1 23 (by decide) (by decide)], by rw [f1 24 (by decide) (by decide)], by rw [f1 25 (by decide) (by decide)]⟩) (fun f hf => f1 f (fun z => by rw [z] at hf; revert hf; decide) (fun z => by rw [z] at hf; revert hf; decide)) sg ?_ ?_
  · rw [up_sn (by omega), up_o (by decide)]; rfl
  · rw [up_o (by decide), up_sn (by omega)]; rfl
  · rw [f1 21 (by decide) (by decide), f1 22 (by decide) (by decide)]; exact q.1.2.1
  · rw [f1 21 (by decide) (by decide), f1 22 (by decide) (by decide)]; exact q.1.2.2
abbrev qqG2 : Type := Nat × Nat × Nat × (Nat → Nat) × (Nat → Nat) × (Nat → Option Nat) × (Nat → Nat)
theorem Lwk_G {a c : Nat} {g : qqG2} {o : Option Int32} {p : Nat} {lim : Int32} : ∀ k, Lwk T (a, g) σ o e p lim k = Lwk T (c, g) σ o e p lim k := by
  intro k
  induction k with
  | zero => rfl
  | succ k ih =>
    show (if Lwc T (a, g) σ o e p lim k (Lwk T (a, g) σ o e p lim k) = true then some k else Lwk T (a, g) σ o e p lim k) = (if Lwc T (c, g) σ o e p lim k (Lwk T (c, g) σ o e p lim k) = true then some k else Lwk T (c, g) σ o e p lim k)
    rw [ih]
    rfl
theorem LfF_G {a c : Nat} {g : qqG2} {o : Option Int32} {p : Nat} : ∀ k b, LfF T (a, g) σ o e p k b = LfF T (c, g) σ o e p k b := by
  intro k
  induction k with
  | zero => intro b; rfl
  | succ k ih =>
    intro b
    cases b with
    | none => rfl
    | some x =>
      show (if σ.1 37 (16 * x + p) = 10 then LfF T (a, g) σ o e p k (Lwk T (a, g) σ o e p (Lor (a, g) σ x) (Gr (c, g))) else some x) = (if σ.1 37 (16 * x + p) = 10 then LfF T (c, g) σ o e p k (Lwk T (c, g) σ o e p (Lor (c, g) σ x) (Gr (c, g))) else some x)
      rw [Lwk_G (a := a) (c := c), ih]
      rfl
theorem Lfnd_G {a c : Nat} {g : qqG2} : Lfnd T (a, g) = Lfnd T (c, g) := by
  funext σ o e p
  show LfF T (a, g) σ o e p 3 (Lwk T (a, g) σ o e p 3 (Gr (c, g))) = LfF T (c, g) σ o e p 3 (Lwk T (c, g) σ o e p 3 (Gr (c, g)))
  rw [Lwk_G (a := a) (c := c), LfF_G (a := a) (c := c)]
theorem rI_G {a c : Nat} {g : qqG2} : rI T (a, g) = rI T (c, g) := by
  funext σ ar e tr
  unfold rI
  rw [Lfnd_G (a := a) (c := c)]
theorem hS_G {a c : Nat} {g : qqG2} : hS T (a, g) σ = hS T (c, g) σ := rfl
theorem cons_G {a c : Nat} {g : qqG2} : cons T (a, g) σ e ↔ cons T (c, g) σ e := by
  unfold cons
  rw [rI_G (a := a) (c := c), hS_G (a := a) (c := c)]
theorem szOK_G {a c : Nat} {g : qqG2} : szOK T (a, g) σ e ↔ szOK T (c, g) σ e := by
  unfold szOK qSize
  rw [rI_G (a := a) (c := c), hS_G (a := a) (c := c)]
theorem Q_se (J : J1 T G σ) (q : Q k mm hl dr T G σ) (p : P_se T G σ T' G' σ') : Q (k + 1) mm hl false T' G' σ' := by
  obtain ⟨rfl, rfl, g30, s1, s26, c, ⟨t20, t23, t25, t24⟩, t20', z14, z16, z21, z22⟩ := p
  have f1 : ∀ f, f ∉ [14, 15, 16, 17, 18, 19, 20, 21, 22, 23, 24, 25] → σ'.1 f = σ.1 f := fun f hf => s1.1 f hf
  have sg : ∀ f, f ∈ [48, 49, 50, 51, 52, 53] → σ'.2 f = σ.2 f := fun f hf => (s1.2 f (by revert f; decide)).trans (sf_o (fun z => by rw [z] at hf; revert hf; decide))
  have ag : sAg (Gs G) σ σ' := c.2.2.2.1
  have q1 : Q (k + 1) mm hl false T' G σ' := Q_ag J q ag (fun s hs => ⟨t20' s hs, c.2.2.2.2 s hs⟩) (fun f hf => f1 f (by revert f; decide)) sg (fun z => by rw [z21]; decide) (fun _ => ⟨z22, by rw [z21]; decide⟩)
  have r30 : RSl σ 30 (Gs G) := J.2.1.2.1
  obtain ⟨a1, a2, a3⟩ := cp_ac (σ := sf σ 81 0) (by omega) c r30
  have nc : nC σ' (Gs G) = nC σ 30 := cp_nC c
  obtain ⟨⟨w1, w2, w3⟩, w4, w5, w6, w7, w8⟩ := q1
  obtain ⟨ga, gb⟩ := G
  refine ⟨⟨fun s hs => ?_, w2, w3⟩, fun e he hd h48 h49 => cons_G.mp (w4 e he hd h48 h49), fun hz e he hd => szOK_G.mp (w5 hz e he hd), w6, w7, w8⟩
  have hs : s < Gs (ga, gb) + 1 := hs
  by_cases c9 : s = Gs (ga, gb)
  · rw [c9]
    obtain ⟨⟨-, c21, c22⟩, -⟩ := c
    have c21 : σ'.1 21 (Gs (ga, gb)) = σ.1 21 30 := c21
    have c22 : σ'.1 22 (Gs (ga, gb)) = σ.1 22 30 := c22
    refine ⟨?_, t25.trans a3.symm, ?_, ?_⟩
    · rw [nc]; exact t23.trans a1.symm
    · rw [nc, c21, c22, t24]
      have a2' : acF σ' (Gs (ga, gb)) (nC σ 30) (nC σ 30) = acF (sf σ 81 0) 30 (nC (sf σ 81 0) 30) (nC (sf σ 81 0) 30) := a2
      rw [a2', a3]
      rfl
    · rw [c21, c22]; exact q.1.2.1
  · exact w1 s (by omega)
theorem Q_mk (J : J1 T G σ) (J' : J1 T' G' σ') (q : Q k mm hl dr T G σ) (p : P_mk T G σ T' G' σ') : Q (k + 1) mm hl dr T' G' σ' := by
  obtain ⟨rfl, x, b, rfl, hn, hs⟩ := p
  have hw := J.1.1
  have hw' := J'.1.1
  have f1 : ∀ f, f ≠ 0 → σ'.1 f = σ.1 f := fun f hf => by rw [hs]; exact (up_o hf : (up (sf σ 81 0) 0 (Tn T) x).1 f = (sf σ 81 0).1 f)
  have sg : ∀ f, f ≠ 13 → f ≠ 81 → σ'.2 f = σ.2 f := fun f h1 h2 => by rw [hs, sf_o h1, up_2, sf_o h2]
  have ms : mkS T σ σ' := ⟨f1, fun e he => by rw [hs]; exact (up_sn he : (up (sf σ 81 0) 0 (Tn T) x).1 0 e = _)⟩
  have bits : ∀ r, r < Gr G' → qMs (Tnw T b) σ' (Gsh G' (Gsf G' r)) (Gse G' r) = qMs T σ (Gsh G' (Gsf G' r)) (Gse G' r) := fun r hr => qMs_nw hw (fun y hy => (J.1.2.2.hn (J.1.2.2.f hr).2 hy).1) ms _
  have rows : ∀ y, rEq σ σ' y ∧ σ'.1 46 y = σ.1 46 y := fun y => ⟨⟨fun p _ => by rw [f1 43 (by decide)], fun v _ => by rw [f1 44 (by decide), f1 45 (by decide)]; exact ⟨rfl, rfl⟩⟩, by rw [f1 46 (by decide)]⟩
  have kp : ∀ y, keepE T (Tnw T b) G' σ σ' y := fun y => by
    refine ⟨fEq.of (fun f hf => f1 f (fun z => by rw [z] at hf; revert hf; decide)) (sg 50 (by decide) (by decide)), ⟨fun r hr => ?_, fun r hr _ => rfl, rfl⟩, by rw [Tsp_nw hw], ?_⟩
    · unfold apB
      rw [hS_74, hS_74, bits r hr]
      have : Lst (Tnw T b) G' (hS (Tnw T b) G' σ') r = Lst T G' (hS T G' σ) r := by unfold Lst; rw [hS_o, hS_o, f1 30 (by decide)]; rfl
      rw [this]
    · unfold hsz Tho Hv
      rw [Tsp_nw hw, f1 43 (by decide), f1 46 (by decide)]
  have tn : Tn (Tnw T b) = Tn T + 1 := rfl
  have lt : ∀ e, e < Tn (Tnw T b) → TD (Tnw T b) e = true → e < Tn T := fun e he hd => by
    by_cases c : e < Tn T
    · exact c
    · have : TD T e = true := hd
      rw [TD_big hw (by omega)] at this; cases this
  have e37 := f1 37 (by decide)
  obtain ⟨⟨q1, q2, q3⟩, q4, q5, ⟨q6, q7⟩, ⟨a, b', c, q8, q9, q10, q11, q12, q13⟩, q14⟩ := q
  have fr := J.2.2.2.2.2.2 (Tn T) (Nat.le_refl _) hn
  refine ⟨⟨fun s hs => (q1 s hs).cg (fun f hf => f1 f (fun z => by rw [z] at hf; revert hf; decide)), by rw [f1 22 (by decide), f1 21 (by decide)]; exact q2, by rw [f1 22 (by decide), f1 21 (by decide)]; exact q3⟩, fun e he hd h48 h49 => ?_, fun hz e he hd => ?_, ⟨fun a ha => by rw [Ldc_cg e37, Ldc_cg e37]; exact q6 a ha, fun e he p hp => ?_⟩, ⟨a, b', c, by rw [sg 51 (by decide) (by decide)]; exact q8, by rw [sg 52 (by decide) (by decide)]; exact q9, by rw [sg 53 (by decide) (by decide)]; exact q10, by omega, by omega, q13⟩, fun z => ⟨fun a ha => by rw [Ldc_cg e37]; exact (q14 z).1 a ha, fun e he => ?_⟩⟩
  · have he' := lt e he hd
    rw [sg 48 (by decide) (by decide)] at h48
    rw [sg 49 (by decide) (by decide)] at h49
    exact cons_keep J.1.2.2.r40 (kp e) (rows e).1 (fun y _ => (rows y).1) (fun _ => by rw [f1 43 (by decide)]) (q4 e he' hd h48 h49)
  · have he' := lt e he hd
    have nz := (nd_is _ _).mp hz
    have hz0 : ndB T σ = false := (nd_is T σ).mpr (fun y hy hyd => by
      have := nz y (by omega) hyd
      rw [sg 48 (by decide) (by decide), sg 49 (by decide) (by decide)] at this
      exact this)
    exact size_keep hw hw' he' he J.1.2.2.r40 (fun x => by rw [Tsp_nw hw]) (fun x _ => ⟨(kp x).1, (kp x).2.1⟩) (rows e).1 (rows e).2 (by rw [f1 43 (by decide)]) (q5 hz0 e he' hd)
  · rw [f1 55 (by decide)]
    by_cases c : e < Tn T
    · exact q7 e c p hp
    · have : e = Tn T := by omega
      rw [this]; exact fr.2 p hp
  · rw [f1 43 (by decide)]
    by_cases c : e < Tn T
    · exact (q14 z).2 e c
    · have : e = Tn T := by omega
      rw [this, fr.1 6 (by decide)]; decide
end QK
