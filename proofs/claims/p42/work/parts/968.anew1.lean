section AN1
variable {T : qqT} {G : qqG} {L : qqL} {A : kA} {ex : Nat → Nat → Prop} {K K' : kS} {S S' : cS} {σ σ' : mS} {v v' nw k : Nat}
def rA1 (P : Nat → Prop) (σ σ' : mS) : Prop := (∀ f, f ∉ [43, 44, 45, 46, 78] → σ'.1 f = σ.1 f) ∧ (∀ i, i < 720 → ¬ P (i / 12) → σ'.1 43 i = σ.1 43 i) ∧ (∀ i, i < 180 → ¬ P (i / 3) → σ'.1 44 i = σ.1 44 i ∧ σ'.1 45 i = σ.1 45 i) ∧ (∀ i, ¬ P i → σ'.1 46 i = σ.1 46 i) ∧ ∀ f, f ≠ 79 → σ'.2 f = σ.2 f
theorem rA1.rf (P : Nat → Prop) (σ : mS) : rA1 P σ σ := ⟨fun _ _ => rfl, fun _ _ _ => rfl, fun _ _ _ => ⟨rfl, rfl⟩, fun _ _ => rfl, fun _ _ => rfl⟩
theorem rA1.tr {P : Nat → Prop} {a b c : mS} (h : rA1 P a b) (k : rA1 P b c) : rA1 P a c := ⟨fun f hf => (k.1 f hf).trans (h.1 f hf), fun i hi hp => (k.2.1 i hi hp).trans (h.2.1 i hi hp), fun i hi hp => ⟨(k.2.2.1 i hi hp).1.trans (h.2.2.1 i hi hp).1, (k.2.2.1 i hi hp).2.trans (h.2.2.1 i hi hp).2⟩, fun i hp => (k.2.2.2.1 i hp).trans (h.2.2.2.1 i hp), fun f hf => (k.2.2.2.2 f hf).trans (h.2.2.2.2 f hf)⟩
theorem rA1.wd {P Q : Nat → Prop} {a b : mS} (h : rA1 P a b) (k : ∀ i, P i → Q i) : rA1 Q a b := ⟨h.1, fun i hi hp => h.2.1 i hi (fun z => hp (k _ z)), fun i hi hp => h.2.2.1 i hi (fun z => hp (k _ z)), fun i hp => h.2.2.2.1 i (fun z => hp (k _ z)), h.2.2.2.2⟩
theorem rA1.sB {P : Nat → Prop} {a b : mS} (h : rA1 P a b) : sB [43, 44, 45, 46, 78] [79] a b := ⟨h.1, fun f hf => h.2.2.2.2 f (by simpa using hf)⟩
theorem qSize_46 (σ : mS) (ar e i : Nat) (z : Int32) : qSize T G (up σ 46 i z) ar e = qSize T G σ ar e := by
  have e43 : (up σ 46 i z).1 43 = σ.1 43 := up_o (by decide)
  have e44 : (up σ 46 i z).1 44 = σ.1 44 := up_o (by decide)
  have e45 : (up σ 46 i z).1 45 = σ.1 45 := up_o (by decide)
  have hq := qV_cg (σ := σ) (σ' := up σ 46 i z) (fun f hf => up_o (fun y => by rw [y] at hf; revert hf; decide)) rfl
  have key : ∀ x, tmV (up σ 46 i z) (rI T G (up σ 46 i z) ar x true) = tmV σ (rI T G σ ar x true) := by
    intro x
    have e1 : rI T G (up σ 46 i z) ar x true = rI T G σ ar x true := by
      refine Prod.ext (funext fun p => ?_) ?_
      · exact (Lfnd_cg (σ := σ) (fun f hf => up_o (fun y => by rw [y] at hf; revert hf; decide)) rfl none x p).2
      · unfold rI
        rw [e43, e44, e45]
        rfl
    unfold tmV
    rw [e1, hq.1]
  unfold qSize
  rw [e43, funext key]
theorem r_an (hw : Tw T) (rs : RS T G σ) (hd : RDv T G σ) {e : Nat} (he : e < Tn T) (hde : TD T e = true) (hP : ∀ y, Tsp T e = some y → ∀ v, v < 3 → okP (rPr σ 1 y v)) : ∃ σ1 σ2 z, f_style (nI e) 1 1 0 σ = some σ1 ∧ f_sized (nI e) 1 σ1 = some (z, σ2) ∧ wr σ2 46 (30 + nI e) z = some (up σ2 46 (30 + e) z) ∧ rW 1 e σ σ1 ∧ rA2 σ1 σ2 ∧ vrW σ1 (3 * (30 * 1 + e)) 3 (qVr σ (rI T G σ 1 e false)) ∧ (∀ q, q < 12 → σ1.1 43 (12 * (30 * 1 + e) + q) = qVl σ (rI T G σ 1 e false) q) ∧ z = (if 0 < σ1.1 43 (12 * (30 * 1 + e) + 6) then qSize T G σ1 1 e else -1) ∧ ∀ v, v < 3 → okP (rPr σ1 1 e v) := by
  have h30 := hw.n30
  have hq : qiOK σ (rI T G σ 1 e false) := rI_ok hw rs.2.1 hd false he hP
  obtain ⟨σ1, e1, w1, v1, l1⟩ := r_style (into := 1) hw rs (show (1 : Nat) < 3 by decide) (by decide) he hde false hq
  have rs1 := rs.W w1
  have hd1 : RDv T G σ1 := hd.cg (fun f hf => w1.2.1 f (by revert f; decide))
  have hok : ∀ v, v < 3 → okP (rPr σ1 1 e v) := fun v hv => by
    have h1 := v1 v hv
    have h2 : rPr σ1 1 e v = qVr σ (rI T G σ 1 e false) v := Prod.ext h1.1 h1.2
    rw [h2]
    exact qVar_ok hq.v hq.2 hv
  obtain ⟨σ2, e2, a2⟩ := r_sized hw rs1 hd1 (ar := 1) (by decide) he hde hok
  refine ⟨σ1, σ2, _, e1, e2, ?_, w1, a2, v1, fun q hq => (l1 q hq (Or.inl hq) (fun z => by cases z)).1, rfl, hok⟩
  rw [show (30 : Int32) = nI 30 from rfl, nI_add, wr_46 (by omega)]
theorem r_an_fr {e : Nat} {σ1 σ2 : mS} {z : Int32} (he : e < 30) (w : rW 1 e σ σ1) (a : rA2 σ1 σ2) : rA1 (fun i => i = 30 + e) σ (up σ2 46 (30 + e) z) := by
  refine ⟨fun f hf => ?_, fun i hi hp => ?_, fun i hi hp => ⟨?_, ?_⟩, fun i hp => ?_, fun f hf => ?_⟩
  · simp only [List.mem_cons, List.not_mem_nil, or_false, not_or] at hf
    rw [up_o (by omega), a.1 f (by simp; omega)]
    by_cases c : f = 47
    · subst c
      funext i
      exact w.2.2.2.2 i (Or.inl (by decide))
    · exact w.2.1 f (by simp; omega)
  · rw [up_o (by decide), a.2.1 i hi]; exact w.2.2.1 i (by omega)
  · rw [up_o (by decide), (a.2.2.1 i hi).1]; exact (w.2.2.2.1 i (by omega)).1
  · rw [up_o (by decide), (a.2.2.1 i hi).2]; exact (w.2.2.2.1 i (by omega)).2
  · rw [up_s, if_neg hp, a.1 46 (by decide), w.2.1 46 (by decide)]
  · rw [up_2, a.2.2.2 f hf, w.1]
def AI1 (k _i _j : Nat) : Prop := k = 39 ∨ k = 40 ∨ k = 44 ∨ k = 45
def AR1 (k _i j : Nat) : Prop := k = 61 ∨ ((k = 39 ∨ k = 44) ∧ j = 9)
def AJe (e k i _j : Nat) : Prop := (i = e ∧ (k = 39 ∨ k = 40)) ∨ k = 44 ∨ k = 45
theorem kB.a1q (b : kB AI1 AR1 K K') : kB qOI qOR K K' := b.wd (fun k i j z => by unfold AI1 at z; unfold qOI; omega) (fun k i j z => by unfold AR1 at z; unfold qOR; omega)
theorem vEqv.an {e y : Nat} {P : Nat → Prop} (w : vEqv K σ true y) (hy : y < 30) (r : rA1 P σ σ') (hP : ¬ P (30 + y)) (hK : ∀ p, K'.1 40 y p = K.1 40 y p) (h2 : K'.1 39 y 2 = K.1 39 y 2) : vEqv K' σ' true y := by
  obtain ⟨w1, w2, w3⟩ := w
  have e43 : ∀ p, p < 12 → σ'.1 43 (12 * (30 * 1 + y) + p) = σ.1 43 (12 * (30 * 1 + y) + p) := fun p hp => r.2.1 _ (by omega) (by rw [show (12 * (30 * 1 + y) + p) / 12 = 30 + y by omega]; exact hP)
  have e44 : ∀ v, v < 3 → rPr σ' 1 y v = rPr σ 1 y v := fun v hv => by
    have := r.2.2.1 (3 * (30 * 1 + y) + v) (by omega) (by rw [show (3 * (30 * 1 + y) + v) / 3 = 30 + y by omega]; exact hP)
    exact Prod.ext this.1 this.2
  refine ⟨fun p hp => ?_, fun v hv => ?_, fun h => ?_⟩
  · show K'.1 40 y p = σ'.1 43 (12 * (30 * 1 + y) + p)
    rw [hK, e43 p hp]; exact w1 p hp
  · show okP (rPr σ' 1 y v) ∧ K'.1 40 y (12 + v) = cod (rPr σ' 1 y v)
    rw [hK, e44 v hv]; exact w2 v hv
  · show K'.1 39 y 2 = σ'.1 46 (30 * 1 + y)
    have h : 0 < σ'.1 43 (12 * (30 * 1 + y) + 6) := h
    rw [e43 6 (by decide)] at h
    rw [h2, r.2.2.2.1 _ (by rw [show 30 * 1 + y = 30 + y by omega]; exact hP)]
    exact w3 h
theorem c_an (hw : Tw T) (x : KX T G A ex K σ) (h : KA A ex K S) {e : Nat} (he : e < Tn T) (hde : TD T e = true) (ha : kAnc T K σ true e) {σ1 : mS} (w : rW 1 e σ σ1) (hv : vrW σ1 (3 * (30 * 1 + e)) 3 (qVr σ (rI T G σ 1 e false))) (hl : ∀ q, q < 12 → σ1.1 43 (12 * (30 * 1 + e) + q) = qVl σ (rI T G σ 1 e false) q) (hok : ∀ v, v < 3 → okP (rPr σ1 1 e v)) {line : Int32} (hb : bt line e = true) : ∃ S' K', (∀ n, f_X11_findAnew_33 (A 49 0) (n + 1) line (some (A 0 e)) S = f_X11_findAnew_90 (f_X11_findAnew_33 (A 49 0) n) (A 49 0) line (some (A 0 e)) S') ∧ KA A ex K' S' ∧ kB (AJe e) AR1 K K' ∧ (∀ p, p < 12 → K'.1 40 e p = σ1.1 43 (12 * (30 * 1 + e) + p)) ∧ (∀ v, v < 3 → K'.1 40 e (12 + v) = cod (rPr σ1 1 e v)) ∧ (0 < σ1.1 43 (12 * (30 * 1 + e) + 6) → K'.1 39 e 2 = qSize T G σ1 1 e) := by
  have h30 := hw.n30
  have t := x.1.2.1
  have p9 := x.1.2.2.1
  obtain ⟨S1, K1, e1, h1, vl1, b1⟩ := c_findStyle hw x h true (d := 39) (i := e) he hde ha (x.st hw true he) (Or.inr (Or.inl rfl)) (fun y hy => Or.inr (TB_ne hw he hy).2)
  have b1q : kB qOI qOR K K1 := b1.wd (fun k i j z => by unfold FI at z; unfold qOI; omega) (fun k i j z => by unfold SR FR at z; unfold qOR; omega)
  have x1 : KX T G A ex K1 σ := x.va b1q
  have x2 : KX T G A ex K1 (up σ1 46 (30 + e) (K1.1 39 e 2)) := x1.cg (fun f hf => (up_o (fun y => by rw [y] at hf; revert hf; decide)).trans (w.2.1 f (by revert f; decide))) (fun f _ => by rw [up_2, w.1])
  have k40 : ∀ p, p < 12 → K1.1 40 e p = σ1.1 43 (12 * (30 * 1 + e) + p) := fun p hp => (vl1.1 p hp (Or.inl (by omega))).trans (hl p hp).symm
  have k40v : ∀ v, v < 3 → K1.1 40 e (12 + v) = cod (rPr σ1 1 e v) := fun v hv3 => by
    have h2 : rPr σ1 1 e v = qVr σ (rI T G σ 1 e false) v := Prod.ext (hv v hv3).1 (hv v hv3).2
    rw [h2]; exact vl1.2.1 v hv3
  have ve : vEqv K1 (up σ1 46 (30 + e) (K1.1 39 e 2)) true e := by
    refine ⟨fun p hp => ?_, fun v hv3 => ?_, fun _ => ?_⟩
    · show K1.1 40 e p = (up σ1 46 (30 + e) (K1.1 39 e 2)).1 43 (12 * (30 * 1 + e) + p)
      rw [up_o (by decide)]; exact k40 p hp
    · have : rPr (up σ1 46 (30 + e) (K1.1 39 e 2)) 1 e v = rPr σ1 1 e v := by
        unfold rPr; rw [up_o (by decide), up_o (by decide)]
      show okP (rPr (up σ1 46 (30 + e) (K1.1 39 e 2)) 1 e v) ∧ K1.1 40 e (12 + v) = cod (rPr (up σ1 46 (30 + e) (K1.1 39 e 2)) 1 e v)
      rw [this]
      exact ⟨hok v hv3, k40v v hv3⟩
    · show K1.1 39 e 2 = (up σ1 46 (30 + e) (K1.1 39 e 2)).1 46 (30 * 1 + e)
      rw [up_s, if_pos (by omega)]
  have fr := r_an_fr (z := K1.1 39 e 2) (show e < 30 by omega) w (rA2.rf σ1)
  have anc : kAnc T K1 (up σ1 46 (30 + e) (K1.1 39 e 2)) true e := fun y hy => by
    have ne := TB_ne hw he hy
    exact (ha y hy).an (e := e) (by omega) fr (fun z => ne.2 (by omega)) (fun p => b1.1 _ _ _ (fun z => by unfold FI at z; omega)) (b1.1 _ _ _ (fun z => by unfold FI at z; omega))
  have st1 := x1.st hw true he
  have t1 := x1.1.2.1
  have p1 := x1.1.2.2.1
  have g40 : gR S1 (some (A 39 e)) 9 0 = some (some (A 40 e)) := st1.v h1
  have a40 : aI S1 (some (A 40 e)) 6 = some (K1.1 40 e 6) := st1.a h1 (p := 6) (by decide)
  have e1' : f_X11_findStyle (A 49 0) (some (A 39 e)) (some (A 0 e)) 1 S = some S1 := e1
  have so' : f_X11_styleOf (A 49 0) (some (A 0 e)) 1 S = some (some (A 39 e)) := c_styleOf hw t p9 h true he
  have b1A : kB (AJe e) AR1 K K1 := b1.wd (fun k i j z => by unfold FI at z; unfold AJe; omega) (fun k i j z => by unfold SR FR at z; unfold AR1; omega)
  have x39 : ex 39 e := p9.1.2.2.2.2.1 e 39 (by omega) (by decide) (by decide)
  have fin : ∀ (S2 : cS) (K2 : kS) (z : Int32), KA A ex K2 S2 → kB (AJe e) AR1 K K2 → (∀ p, K2.1 40 e p = K1.1 40 e p) → (0 < σ1.1 43 (12 * (30 * 1 + e) + 6) → z = qSize T G σ1 1 e) → (∀ n, f_X11_findAnew_33 (A 49 0) (n + 1) line (some (A 0 e)) S = f_X11_findAnew_87 (f_X11_findAnew_33 (A 49 0) n) (A 49 0) line (some (A 0 e)) (some (A 39 e)) z S2) → ∃ S' K', (∀ n, f_X11_findAnew_33 (A 49 0) (n + 1) line (some (A 0 e)) S = f_X11_findAnew_90 (f_X11_findAnew_33 (A 49 0) n) (A 49 0) line (some (A 0 e)) S') ∧ KA A ex K' S' ∧ kB (AJe e) AR1 K K' ∧ (∀ p, p < 12 → K'.1 40 e p = σ1.1 43 (12 * (30 * 1 + e) + p)) ∧ (∀ v, v < 3 → K'.1 40 e (12 + v) = cod (rPr σ1 1 e v)) ∧ (0 < σ1.1 43 (12 * (30 * 1 + e) + 6) → K'.1 39 e 2 = qSize T G σ1 1 e) := by
    intro S2 K2 z h2 b2 o40 hz run
    obtain ⟨S3, e3, h3⟩ := h2.PI (k := 39) (i := e) (t := 9) (j := 2) x39 rfl (by decide) z
    refine ⟨S3, _, fun n => ?_, h3, b2.I (by unfold AJe; omega), fun p hp => ?_, fun v hv3 => ?_, fun h0 => ?_⟩
    · rw [run n]
      unfold f_X11_findAnew_87
      rw [e3, qqx]
    · rw [kwI_k (by decide), o40]; exact k40 p hp
    · rw [kwI_k (by decide), o40]; exact k40v v hv3
    · rw [kwI_s]; exact hz h0
  have six : (K1.1 40 e 6 ≤ 0) ↔ ¬ 0 < σ1.1 43 (12 * (30 * 1 + e) + 6) := by
    rw [k40 6 (by decide)]
    exact ⟨fun z => Int32.not_lt.mpr z, fun z => Int32.not_lt.mp z⟩
  have run0 : ∀ n, f_X11_findAnew_33 (A 49 0) (n + 1) line (some (A 0 e)) S = if K1.1 40 e 6 ≤ 0 then f_X11_findAnew_87 (f_X11_findAnew_33 (A 49 0) n) (A 49 0) line (some (A 0 e)) (some (A 39 e)) 0 S1 else (f_X11_sizeFor (A 49 0) (some (A 0 e)) 1 S1).bind (fun v10 => f_X11_findAnew_87 (f_X11_findAnew_33 (A 49 0) n) (A 49 0) line (some (A 0 e)) (some (A 39 e)) v10.1 v10.2) := by
    intro n
    rw [f_X11_findAnew_33, if_neg (fun z => by cases z), t.gn h he, qqx, c_isMember _ (by omega), qqx, b2_i0, hb, if_pos rfl, p9.r11 h, qqx, so', qqx, qqx, e1', qqx, g40, qqx, a40, qqx, p1.r11 h1, qqx]
  by_cases c : 0 < σ1.1 43 (12 * (30 * 1 + e) + 6)
  · obtain ⟨S2, K2, e2, h2, b2⟩ := c_sizeFor hw x2 h1 true he hde ve anc
    have e2' : f_X11_sizeFor (A 49 0) (some (A 0 e)) 1 S1 = some (qSize T G (up σ1 46 (30 + e) (K1.1 39 e 2)) 1 e, S2) := e2
    rw [qSize_46] at e2'
    have b2A : kB (AJe e) AR1 K1 K2 := b2.wd (fun k i j z => by unfold ZI FI at z; unfold AJe; omega) (fun k i j z => by unfold ZR SR FR at z; unfold AR1; omega)
    refine fin S2 K2 _ h2 (b1A.tr b2A) (fun p => b2.1 _ _ _ (fun z => by unfold ZI FI at z; omega)) (fun _ => rfl) (fun n => ?_)
    rw [run0 n, if_neg (fun z => six.mp z c), e2', qqx]
  · refine fin S1 K1 0 h1 b1A (fun _ => rfl) (fun h0 => absurd h0 c) (fun n => ?_)
    rw [run0 n, if_pos (six.mpr c)]
end AN1
