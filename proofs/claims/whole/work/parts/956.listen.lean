/-! MATHS, 72: a listener is made -/
section LSN
variable {T : qqT} {G : qqG} {L : qqL} {A : kA} {ex : Nat → Nat → Prop} {K K' : kS} {S S' : cS} {σ σ' : mS} {v v' nw k : Nat}
def lsP (n k i j : Nat) : Prop := (k = 38 ∧ i = n) ∨ (k = 49 ∧ i = 0 ∧ j = 5)
def lsR (n k i j : Nat) : Prop := (k = 38 ∧ i = n) ∨ (k = 63 ∧ i = 0 ∧ j = n)
theorem J0.ls (j : J0 T G L ex K σ v) {n e p q c : Nat} (hn : n = L.1) (hn6 : n < 6) (he : e < Tn T) (hp : p < 15) (hq : q < Tn T) (hc : c < 8) {ex' : Nat → Nat → Prop} (hex : ex' = fun a b => ex a b ∨ (a = 38 ∧ b = n)) (b : kB (lsP n) (lsR n) K K') (s : sB [65, 66, 67, 68] [70] σ σ')
    (k1 : K'.1 49 0 5 = nI (n + 1) ∧ K'.2 63 0 n = some (38, n) ∧ K'.2 38 n 0 = some (0, e) ∧ K'.1 38 n 1 = nI p ∧ K'.2 38 n 2 = some (0, q) ∧ K'.1 38 n 3 = nI c)
    (s1 : σ'.2 70 = nI (n + 1) ∧ (σ'.1 65 n = nI e ∧ σ'.1 66 n = nI p ∧ σ'.1 67 n = nI q ∧ σ'.1 68 n = nI c) ∧ ∀ i, i ≠ n → σ'.1 65 i = σ.1 65 i ∧ σ'.1 66 i = σ.1 66 i ∧ σ'.1 67 i = σ.1 67 i ∧ σ'.1 68 i = σ.1 68 i) :
    J0 T G (n + 1, fun i => if i = n then (e, p, q, c) else L.2 i) ex' K' σ' v := by
  subst hn
  subst hex
  have mono : ∀ a b, ex a b → (ex a b ∨ (a = 38 ∧ b = L.1)) := fun a b h => Or.inl h
  obtain ⟨t, ca, ⟨n1, n2, n3, n4, ⟨n5, n6, n7⟩, n8, n9⟩, va, mk, ⟨m, s26⟩, d, fr⟩ := j
  refine ⟨JTr_ex mono ((t.kp b (fun k i j z => by unfold lsP at z; unfold dTI; omega) (fun k i j z => by unfold lsR at z; unfold dTR; omega)).cg (fun f hf => s.1 f (by revert f; decide)) (s.2 13 (by decide))), JCa_ex mono ((ca.kp b (fun k i j z => by unfold lsP at z; unfold dCI; omega) (fun k i j z => by unfold lsR at z; unfold dCR; omega)).cg (fun f hf => s.1 f (by revert f; decide)) (fun f hf => s.2 f (by revert f; decide))), ⟨n1.cg (fun f hf => s.1 f (by revert f; decide)), (n2.keep b (fun i j => by unfold lsP; omega)).cg (fun f hf => s.1 f (by revert f; decide)), n3.cg (fun f hf => s.1 f (by revert f; decide)) (s.2 54 (by decide)), by rw [s.2 54 (by decide), b.1 49 0 6 (by unfold lsP; omega)]; exact n4, ⟨s1.1, by show L.1 + 1 ≤ 6; omega, fun i hi => ?_⟩, k1.1, fun i hi => ?_⟩, (va.kp b (fun k i j z => by unfold lsP at z; omega)).cg (fun f hf => s.1 f (by revert f; decide)) (s.2 48 (by decide)), (mk.kp b (fun k i j z => by unfold lsP at z; omega)).cg (fun f hf => s.2 f (by revert f; decide)), ⟨KMt_ex mono ((m.keep b (fun k i j z => by unfold lsP at z; omega) (fun k i j z => by unfold lsR at z; omega)).cg (fun f hf => s.1 f (by revert f; decide))), by rw [s.2 26 (by decide)]; exact s26⟩, JDf_ex mono ((d.kp b (fun k i j z => by unfold lsP at z; omega) (fun k i j z => by unfold lsR at z; omega)).cg (fun f hf => s.1 f (by revert f; decide))), ?_⟩
  · show (σ'.1 65 i = nI (if i = L.1 then (e, p, q, c) else L.2 i).1 ∧ (if i = L.1 then (e, p, q, c) else L.2 i).1 < Tn T) ∧ (σ'.1 66 i = nI (if i = L.1 then (e, p, q, c) else L.2 i).2.1 ∧ (if i = L.1 then (e, p, q, c) else L.2 i).2.1 < 15) ∧ (σ'.1 67 i = nI (if i = L.1 then (e, p, q, c) else L.2 i).2.2.1 ∧ (if i = L.1 then (e, p, q, c) else L.2 i).2.2.1 < Tn T) ∧ σ'.1 68 i = nI (if i = L.1 then (e, p, q, c) else L.2 i).2.2.2 ∧ (if i = L.1 then (e, p, q, c) else L.2 i).2.2.2 < 8
    by_cases z : i = L.1
    · rw [if_pos z, z]
      obtain ⟨x1, x2, x3, x4⟩ := s1.2.1
      exact ⟨⟨x1, he⟩, ⟨x2, hp⟩, ⟨x3, hq⟩, x4, hc⟩
    · rw [if_neg z]
      obtain ⟨x1, x2, x3, x4⟩ := s1.2.2 i z
      rw [x1, x2, x3, x4]
      exact n7 i (by have hi' : i < L.1 + 1 := hi; omega)
  · show (ex 38 i ∨ (38 = 38 ∧ i = L.1)) ∧ K'.2 63 0 i = some (38, i) ∧ K'.2 38 i 0 = some (0, (if i = L.1 then (e, p, q, c) else L.2 i).1) ∧ K'.1 38 i 1 = nI (if i = L.1 then (e, p, q, c) else L.2 i).2.1 ∧ K'.2 38 i 2 = some (0, (if i = L.1 then (e, p, q, c) else L.2 i).2.2.1) ∧ K'.1 38 i 3 = nI (if i = L.1 then (e, p, q, c) else L.2 i).2.2.2
    by_cases z : i = L.1
    · rw [if_pos z, z]
      exact ⟨Or.inr ⟨rfl, rfl⟩, k1.2⟩
    · rw [if_neg z, b.2 63 0 i (by unfold lsR; omega), b.2 38 i 0 (by unfold lsR; omega), b.2 38 i 2 (by unfold lsR; omega), b.1 38 i 1 (by unfold lsP; omega), b.1 38 i 3 (by unfold lsP; omega)]
      obtain ⟨y1, y2⟩ := n9 i (by have hi' : i < L.1 + 1 := hi; omega)
      exact ⟨Or.inl y1, y2⟩
  · have fr' : JFr T G L ex σ' := fr.cg (fun f hf => s.1 f (by revert f; decide)) (fun e _ _ => rY.of (fun f hf => s.1 f (by revert f; decide)))
    obtain ⟨⟨d1, d2, d3, d4, d5, d6⟩, d7⟩ := fr'
    refine ⟨⟨fun k e h1 h2 z => ?_, fun k h1 z => ?_, fun k r h1 h2 h3 z => ?_, fun s h1 k h2 h3 z => ?_, fun j h1 h2 => ?_, fun k h1 z => ?_⟩, d7⟩
    · rcases z with z | z
      · exact d1 k e h1 h2 z
      · omega
    · rcases z with z | z
      · exact d2 k h1 z
      · omega
    · rcases z with z | z
      · exact d3 k r h1 h2 h3 z
      · omega
    · rcases z with z | z
      · exact d4 s h1 k h2 h3 z
      · omega
    · obtain ⟨y1, y2, y3, y4⟩ := d5 j h1 h2
      exact ⟨fun z => z.elim y1 (by omega), fun z => z.elim y2 (by omega), fun z => z.elim y3 (by omega), fun z => z.elim y4 (by omega)⟩
    · have h1' : L.1 + 1 ≤ k := h1
      rcases z with z | z
      · exact d6 k (by omega) z
      · omega
theorem simJ_listen : sim_listen (J k) (J (k + 1)) := by
  intro S σ a1 a2 a3 a4 h
  obtain ⟨T, G, L, A, ex, K, v, nw9, w⟩ := h
  obtain ⟨⟨hw, hA, hin⟩, h49, ⟨hv, hn, h54⟩, j⟩ := id w
  have h30 := hw.n30
  have q := j.1.1
  have rt := j.1.2.2.2
  refine at49 (P := fun x => sJR [2, 0, 1] lvN (J (k + 1)) (f_X11_listen x a1 a2 a3 a4 S) (f_listen a1 a2 a3 a4 σ)) h49 ?_
  unfold f_X11_listen f_listen f_X11_listen_33 f_listen_17 f_listen_44
  have r1 : f_listen_62 a1 a2 a3 a4 1 σ = some (-1, sf σ 81 1) := by unfold f_listen_62; rw [r_holds1, qqx]; rfl
  have r2 : f_listen_62 a1 a2 a3 a4 2 σ = some (-1, sf σ 81 2) := by unfold f_listen_62; rw [r_holds2, qqx]; rfl
  have r3 : f_listen_62 a1 a2 a3 a4 3 σ = some (-1, sf σ 81 3) := by unfold f_listen_62; rw [r_holds3, qqx]; rfl
  rw [q.2.1.r11 hA, qqx, r_isElement rt hw, qqx, r_isElement rt hw, qqx, r1, r2, r3]
  rcases ix_cases a1 (n := Tn T) (by omega) with ⟨e, he, rfl⟩ | hx
  · rw [c_elementAt hw q hA he, qqx, if_dt (nI_inn he (by omega))]
    show sJR _ _ _ ((rc S (some (A 49 0)) 11).bind _) _
    rw [q.2.1.r11 hA, qqx]
    show sJR _ _ _ ((f_X11_elementAt (A 49 0) a3 S).bind _) _
    rcases ix_cases a3 (n := Tn T) (by omega) with ⟨d, hd, rfl⟩ | hx
    · rw [c_elementAt hw q hA hd, qqx, if_dt (nI_inn hd (by omega)), r_in0 a2 (n := 15) (by decide) (by decide), qqx, r_in0 a4 (n := 8) (by decide) (by decide), qqx]
      show sJR _ _ _ ((f_X11_isBelow a2 (nI 15)).bind (fun v7 => if v7 = 0 then _ else ((f_X11_isBelow a4 (nI 8)).bind _))) _
      rw [c_isBelow, qqx, c_isBelow, qqx]
      have no : sJR [2, 0, 1] lvN (J (k + 1)) (f_X11_listen_38 (A 49 0) a2 a4 (some (A 0 e)) (some (A 0 d)) 1 S) (some (-1, sf σ 81 2)) := by
        unfold f_X11_listen_38
        rw [c_refA1, qqx]
        exact sJR.l rfl (w.no 2)
      rcases ix_cases a2 (n := 15) (by decide) with ⟨p, hp, rfl⟩ | hx
      · rw [if_dt (nI_inn hp (by decide)), if_dt (nI_inn hp (by decide))]
        rcases ix_cases a4 (n := 8) (by decide) with ⟨c, hc, rfl⟩ | hx
        · rw [if_dt (nI_inn hc (by decide)), if_dt (nI_inn hc (by decide))]
          have g5 : gI S (some (A 49 0)) 11 5 = some (nI L.1) := by rw [q.2.1.I49 hA, j.2.2.1.2.2.2.2.2.1]
          obtain ⟨l1, l6, l7⟩ := j.2.2.1.2.2.2.2.1
          show sJR _ _ _ (f_X11_listen_38 (A 49 0) (nI p) (nI c) (some (A 0 e)) (some (A 0 d)) 0 S) _
          unfold f_X11_listen_38
          rw [c_refA0, qqx]
          show sJR _ _ _ ((gI S (some (A 49 0)) 11 5).bind _) _
          rw [g5, qqx, l1]
          by_cases full : L.1 < 6
          · rw [if_pos (show nI L.1 < 6 from nI_lt (b := 6) full (by decide)), if_neg (show ¬ nI L.1 = 6 from fun z => by have := (nI_eqE (b := 6) (by omega) (by decide)).mp z; omega)]
            have x49 : ex 49 0 := q.2.1.x (by decide) (by decide) (by decide)
            have x63 : ex 63 0 := q.2.1.x (by decide) (by decide) (by decide)
            have hS0 : S.2 ≠ 0 := by have := (hA.1 49 0 x49).2.1; omega
            have n38 : ¬ ex 38 L.1 := j.2.2.2.2.2.2.2.1.2.2.2.2.2 L.1 (Nat.le_refl _)
            obtain ⟨A', hAA, hAn, hA0⟩ := hA.new (k := 38) (i := L.1) n38 hS0
            have hA0' : KA A' (fun a b => ex a b ∨ (a = 38 ∧ b = L.1)) (fun a b => if a = 38 ∧ b = L.1 then fun _ => 0 else K.1 a b, fun a b => if a = 38 ∧ b = L.1 then fun _ => none else K.2 a b) (nw S 4) := hA0
            generalize hK0 : ((fun a b => if a = 38 ∧ b = L.1 then fun _ => 0 else K.1 a b, fun a b => if a = 38 ∧ b = L.1 then fun _ => none else K.2 a b) : kS) = K0 at hA0'
            have b0 : kB (lsP L.1) (lsR L.1) K K0 := by
              rw [← hK0]
              exact ⟨fun a b c z => by show (if a = 38 ∧ b = L.1 then fun _ => 0 else K.1 a b) c = _; rw [if_neg (fun y => z (Or.inl y))], fun a b c z => by show (if a = 38 ∧ b = L.1 then fun _ => none else K.2 a b) c = _; rw [if_neg (fun y => z (Or.inl y))]⟩
            have m38 : (fun a b => ex a b ∨ (a = 38 ∧ b = L.1)) 38 L.1 := Or.inr ⟨rfl, rfl⟩
            obtain ⟨S1, e1, h1⟩ := hA0'.PR (k := 38) (i := L.1) (t := 4) (j := 0) m38 rfl (by decide) (some (0, e)) (fun r z => by cases z; exact Or.inl (show ex 0 e from q.1.E he (by decide)))
            obtain ⟨S2, e2, h2⟩ := h1.PI (k := 38) (i := L.1) (t := 4) (j := 1) m38 rfl (by decide) (nI p)
            obtain ⟨S3, e3, h3⟩ := h2.PR (k := 38) (i := L.1) (t := 4) (j := 2) m38 rfl (by decide) (some (0, d)) (fun r z => by cases z; exact Or.inl (show ex 0 d from q.1.E hd (by decide)))
            obtain ⟨S4, e4, h4⟩ := h3.PI (k := 38) (i := L.1) (t := 4) (j := 3) m38 rfl (by decide) (nI c)
            obtain ⟨S5, e5, h5⟩ := h4.SR (k := 63) (i := 0) (ci := 4) (N := 6) (j := L.1) (Or.inl x63) rfl (by decide) full (some (38, L.1)) (fun r z => by cases z; exact ⟨m38, rfl⟩)
            obtain ⟨S6, e6, h6⟩ := h5.PI (k := 49) (i := 0) (t := 11) (j := 5) (Or.inl x49) rfl (by decide) (nI (L.1 + 1))
            have b : kB (lsP L.1) (lsR L.1) K (kwI (kwR (kwI (kwR (kwI (kwR K0 38 L.1 0 (some (0, e))) 38 L.1 1 (nI p)) 38 L.1 2 (some (0, d))) 38 L.1 3 (nI c)) 63 0 L.1 (some (38, L.1))) 49 0 5 (nI (L.1 + 1))) := (((((b0.R (Or.inl ⟨rfl, rfl⟩)).I (Or.inl ⟨rfl, rfl⟩)).R (Or.inl ⟨rfl, rfl⟩)).I (Or.inl ⟨rfl, rfl⟩)).R (Or.inr ⟨rfl, rfl, rfl⟩)).I (Or.inr ⟨rfl, rfl, rfl⟩)
            have j0 := j.scR (scR_sf σ 0)
            have s : sB [65, 66, 67, 68] [70] (sf σ 81 0) (sf (up (up (up (up (sf σ 81 0) 65 L.1 (nI e)) 66 L.1 (nI p)) 67 L.1 (nI d)) 68 L.1 (nI c)) 70 (nI (L.1 + 1))) := by
              have s1 : sB [65, 66, 67, 68] [70] (sf σ 81 0) (up (up (up (up (sf σ 81 0) 65 L.1 (nI e)) 66 L.1 (nI p)) 67 L.1 (nI d)) 68 L.1 (nI c)) := ((((sB.rf _).up (by simp)).up (by simp)).up (by simp)).up (by simp)
              exact ⟨s1.1, fun f hf => (sf_o (fun z => hf (by rw [z]; decide))).trans (s1.2 f hf)⟩
            have jl := j0.ls (e := e) (p := p) (q := d) (c := c) rfl full he hp hd hc rfl b s (by
              refine ⟨kwI_s _ _ _ _ _, ?_, ?_, ?_, ?_, ?_⟩ <;> simp [kwI, kwR]) (by
              refine ⟨sf_s _ _ _, ?_, fun i hi => ?_⟩
              · simp [sf_1, up, upd]
              · simp [sf_1, up, upd, hi])
            have q6 := jl.1.1
            have a49 : A' 49 0 = A 49 0 := hAA _ _ x49
            have l1' : (sf σ 81 0).2 70 = nI L.1 := l1
            have ref : f_listen_62 (nI e) (nI p) (nI d) (nI c) 0 σ = some (nI (L.1 + 1) - 1, sf (up (up (up (up (sf σ 81 0) 65 L.1 (nI e)) 66 L.1 (nI p)) 67 L.1 (nI d)) 68 L.1 (nI c)) 70 (nI (L.1 + 1))) := by
              unfold f_listen_62
              rw [r_holds0, qqx, if_pos rfl, l1', wr_65 (by omega), qqx, up_2, l1', wr_66 (by omega), qqx, up_2, up_2, l1', wr_67 (by omega), qqx, up_2, up_2, up_2, l1', wr_68 (by omega), qqx, up_2, up_2, up_2, up_2, l1', nI_1, sf_s]
            have e1' : pR (nw S 4) (some S.2) 4 0 (some (A 0 e)) = some S1 := by rw [← hAn, ← hAA 0 e (q.1.E he (by decide))]; exact e1
            have e2' : pI S1 (some S.2) 4 1 (nI p) = some S2 := by rw [← hAn]; exact e2
            have e3' : pR S2 (some S.2) 4 2 (some (A 0 d)) = some S3 := by rw [← hAn, ← hAA 0 d (q.1.E hd (by decide))]; exact e3
            have e4' : pI S3 (some S.2) 4 3 (nI c) = some S4 := by rw [← hAn]; exact e4
            have e5' : sR S4 (some (A 63 0)) 4 (nI L.1) (some S.2) = some S5 := by rw [← hAn, ← hAA 63 0 x63]; exact e5
            have e6' : pI S5 (some (A 49 0)) 11 5 (nI (L.1 + 1)) = some S6 := by rw [← a49]; exact e6
            have rc' : rc (nw S 4) (some S.2) 4 = some S.2 := by rw [← hAn]; exact hA0'.Rc 38 4 m38 rfl
            have gl : gR S (some (A 49 0)) 11 4 = some (some (A 63 0)) := by rw [hA.R 49 11 x49 rfl, q.2.1.2.1.2.2.2.2.1]; rfl
            have g55 : gI S5 (some (A 49 0)) 11 5 = some (nI L.1) := by
              rw [← a49, h5.I 49 11 (Or.inl x49) rfl]
              have z5 : K0.1 49 0 5 = nI L.1 := by
                rw [← hK0]
                show (if (49 : Nat) = 38 ∧ (0 : Nat) = L.1 then fun _ => 0 else K.1 49 0) 5 = _
                rw [if_neg (by omega)]; exact j.2.2.1.2.2.2.2.2.1
              show some ((kwI (kwR (kwI (kwR K0 38 L.1 0 (some (0, e))) 38 L.1 1 (nI p)) 38 L.1 2 (some (0, d))) 38 L.1 3 (nI c)).1 49 0 5) = _
              rw [kwI_k (by decide)]
              show some ((kwI (kwR K0 38 L.1 0 (some (0, e))) 38 L.1 1 (nI p)).1 49 0 5) = _
              rw [kwI_k (by decide)]
              exact congrArg some z5
            have g66 : gI S6 (some (A 49 0)) 11 5 = some (nI (L.1 + 1)) := by rw [← a49, h6.I 49 11 (Or.inl x49) rfl, kwI_s]
            rw [ref]
            unfold f_X11_listen_55
            rw [c_refS0, qqx]
            show sJR _ _ _ ((gR S (some (A 49 0)) 11 4).bind (fun v3 => (gI S (some (A 49 0)) 11 5).bind (fun v4 => (rc (nw S 4) (some S.2) 4).bind (fun v5 => (f_X4_init v5 (some (A 0 e)) (nI p) (some (A 0 d)) (nI c) (nw S 4)).bind (fun v6 => (sR v6 v3 4 v4 (some S.2)).bind _))))) _
            rw [gl, qqx, g5, qqx, rc', qqx]
            unfold f_X4_init
            rw [e1', qqx, e2', qqx, e3', qqx, e4', qqx, qqx, e5', qqx, g55, qqx, nI_1, e6', qqx, g66, qqx]
            refine sJR.r rfl rfl (fun n hn1 => ⟨T, G, _, A', _, _, v, nw9, ⟨hw, h6.mono hn1, kIn_ex (fun a b h => Or.inl h) hAA (hin.kp b (fun i j => by unfold lsP; omega))⟩, a49.trans h49, ⟨by omega, by omega, h54⟩, jl⟩)
          · have : L.1 = 6 := by omega
            rw [if_neg (show ¬ nI L.1 < 6 by rw [this]; decide), if_pos (show nI L.1 = 6 by rw [this]; rfl)]
            unfold f_X11_listen_55
            rw [c_refS1, qqx]
            exact sJR.l rfl (w.no 3)
        · rw [if_df hx, if_df hx]; exact no
      · rw [if_df hx, if_df hx]; exact no
    · rw [c_elementN hw q hA hx, qqx, if_df hx]
      exact sJR.l rfl (w.no 1)
  · rw [c_elementN hw q hA hx, qqx, if_df hx]
    exact sJR.l rfl (w.no 1)
end LSN
