theorem bV_lit {x : Int32} (h : decide (-1000000 ≤ x.toInt ∧ x.toInt ≤ 1000000) = true) : bV x := ⟨(of_decide_eq_true h).1, (of_decide_eq_true h).2⟩
theorem vI0_b (p : Nat) : bV (vI0 p) := by
  unfold vI0
  by_cases h1 : p = 1
  · rw [if_pos h1]; exact bV_lit (by decide)
  rw [if_neg h1]
  by_cases h2 : p = 2
  · rw [if_pos h2]; exact bV_lit (by decide)
  rw [if_neg h2]
  by_cases h5 : p = 5
  · rw [if_pos h5]; exact bV_lit (by decide)
  rw [if_neg h5]
  by_cases h8 : p = 8 ∨ p = 11
  · rw [if_pos h8]; exact bV_lit (by decide)
  · rw [if_neg h8]; exact bV_lit (by decide)
theorem vBd_b (x : Int64) : bV (vBd x) := by
  unfold vBd
  by_cases h1 : (0 : Int32) ≤ lg_cmp x (-100000)
  · rw [if_pos h1]
    by_cases h2 : lg_cmp x 100000 ≤ (0 : Int32)
    · rw [if_pos h2]
      have a := Int64.le_iff_toInt_le.mp ((lg_cmp_ge _ _).mp h1)
      have b := Int64.le_iff_toInt_le.mp ((lg_cmp_le _ _).mp h2)
      rw [show (-100000 : Int64).toInt = -100000 by decide] at a
      rw [show (100000 : Int64).toInt = 100000 by decide] at b
      have c : x.toInt32.toInt = x.toInt := by
        rw [Int64.toInt_toInt32]
        exact Int.bmod_eq_of_le (by omega) (by omega)
      exact ⟨by rw [c]; omega, by rw [c]; omega⟩
    · rw [if_neg h2]; exact bV_lit (by decide)
  · rw [if_neg h1]; exact bV_lit (by decide)
theorem vEv_b {P : Option (Nat → Int32)} {own top held width : Int32} {p : Nat} {un : Int32 × Int32} (hP : ∀ f, P = some f → bV (f p)) (hu : un.1 < 2 → sm un.2) : bV (vEv P own top held width p un) := by
  unfold vEv
  by_cases h1 : un.1 = 8 ∨ (un.1 = 9 ∧ p < 2)
  · rw [if_pos h1]
    unfold vPa
    cases P with
    | none => exact vI0_b p
    | some f => exact hP f rfl
  rw [if_neg h1]
  by_cases h2 : (6 : Int32) < un.1
  · rw [if_pos h2]; exact vI0_b p
  rw [if_neg h2]
  by_cases h3 : un.1 < 2
  · rw [if_pos h3]; exact sm_bV (hu h3)
  rw [if_neg h3]
  by_cases h4 : un.1 = 2
  · rw [if_pos h4]; exact vBd_b _
  rw [if_neg h4]
  by_cases h5 : un.1 = 3
  · rw [if_pos h5]; exact vBd_b _
  rw [if_neg h5]
  by_cases h6 : un.1 = 4
  · rw [if_pos h6]
    by_cases h7 : p = 1
    · rw [if_pos h7]; exact vBd_b _
    · rw [if_neg h7]
      by_cases h8 : vSn P width = -1000000
      · rw [if_pos h8]; exact bV_lit (by decide)
      · rw [if_neg h8]; exact vBd_b _
  rw [if_neg h6]
  by_cases h9 : un.1 = 5
  · rw [if_pos h9]; exact vBd_b _
  · rw [if_neg h9]; exact bV_lit (by decide)
theorem qVl_b {σ : mS} {I : qI} (hq : qiOK σ I) (hP : ∀ f, qiP I = some f → ∀ p, p < 12 → bV (f p)) {p : Nat} (hp : p < 12) : bV (qVl σ I p) := by
  unfold qVl
  have hV : ∀ v, v < 3 → okP (qVr σ I v) := fun v hv => qVar_ok hq.v hq.2 hv
  exact vEv_b (fun f hf => hP f hf p hp) (vUn_ok hp (fun a ha => ⟨(hq.1 p (by omega) a ha).1, (hq.1 p (by omega) a ha).2.2⟩) hV).2.1
def qAny (f : Nat → Bool) : Nat → Bool
  | 0 => false
  | n + 1 => qAny f n || f n
theorem qAny_is {f : Nat → Bool} : ∀ {n : Nat}, qAny f n = true ↔ ∃ i, i < n ∧ f i = true := by
  intro n
  induction n with
  | zero => exact ⟨fun h => (by cases h), fun h => (by obtain ⟨i, h, _⟩ := h; exact absurd h (Nat.not_lt_zero i))⟩
  | succ n ih =>
    show (qAny f n || f n) = true ↔ _
    rw [Bool.or_eq_true, ih]
    constructor
    · rintro (⟨i, h, k⟩ | h)
      · exact ⟨i, by omega, k⟩
      · exact ⟨n, by omega, h⟩
    · rintro ⟨i, h, k⟩
      by_cases c : i = n
      · subst c; exact Or.inr k
      · exact Or.inl ⟨i, by omega, k⟩
theorem qAny_cg {f g : Nat → Bool} {n : Nat} (h : ∀ i, i < n → f i = g i) : qAny f n = qAny g n := by
  induction n with
  | zero => rfl
  | succ n ih =>
    show (qAny f n || f n) = (qAny g n || g n)
    rw [ih (fun i hi => h i (by omega)), h n (by omega)]
section RR2
variable {T : qqT} {G : qqG} {L : qqL} {σ : mS}
theorem RS.sB {σ' : mS} {L1 L2 : List Nat} (h : RS T G σ) (k : sB L1 L2 σ σ') (h1 : ∀ x ∈ [0, 4, 6, 7, 8, 9, 10, 11, 12, 27, 28, 29, 30, 32, 33, 77], x ∉ L1) (h2 : ∀ x ∈ [13, 31, 36], x ∉ L2) : RS T G σ' := ⟨h.1.sB k (fun x hx => h1 x (by revert x; decide)) (h2 13 (by decide)), h.2.1.sB k (fun x hx => h1 x (by revert x; decide)) (fun x hx => h2 x (by revert x; decide)), fun x hx => by rw [k.1 77 (h1 77 (by decide))]; exact h.2.2 x hx⟩
theorem rT.sB {e : Nat} {x y : mS} (h : rT e x y) : sB [43, 44, 45, 46, 47, 55, 56, 57, 58, 59, 69, 78, 82, 83, 84] [79] x y := ⟨h.2.1, fun f hf => h.1 f (by simpa using hf)⟩
theorem RDv.cg {σ' : mS} (h : RDv T G σ) (h1 : ∀ f, f ∈ [37, 38, 40, 41, 42] → σ'.1 f = σ.1 f) : RDv T G σ' := by
  intro a ha p hp hd
  unfold Ldc at hd
  rw [h1 37 (by decide)] at hd
  have := h a ha p hp hd
  unfold rOK at this ⊢
  rw [h1 37 (by decide), h1 38 (by decide), h1 40 (by decide), h1 41 (by decide), h1 42 (by decide)]
  exact this
theorem rI_cg {σ' : mS} (h : ∀ f, f ∈ [20, 27, 29, 30, 34, 35, 37, 39, 74, 43, 44, 45, 46] → σ'.1 f = σ.1 f) (h2 : σ'.2 50 = σ.2 50) (ar e : Nat) (tr : Bool) : rI T G σ' ar e tr = rI T G σ ar e tr := by
  have hz : hsz T σ' ar e = hsz T σ ar e := by
    unfold hsz
    have : Hv σ' ar = Hv σ ar := by funext x; unfold Hv; rw [h 43 (by decide)]
    rw [this, h 46 (by decide)]
  have hf : ∀ o p, Lfnd T G σ' o e p = Lfnd T G σ o e p := fun o p => (Lfnd_cg (fun f hf => h f (by revert f; decide)) h2 o e p).2
  unfold rI
  rw [hz, h 43 (by decide), h 44 (by decide), h 45 (by decide)]
  exact Prod.ext (funext fun p => hf _ p) rfl
theorem rI_t (σ : mS) (ar e : Nat) : rI T G σ ar e true = (fun p => Lfnd T G σ none e p, (Tsp T e).map (fun y => (fun p => σ.1 43 (12 * (30 * ar + y) + p), fun v => (σ.1 44 (3 * (30 * ar + y) + v), σ.1 45 (3 * (30 * ar + y) + v)))), σ.1 43 (360 * ar + 1), none) := rfl
theorem rI_cgt {σ' : mS} (h : ∀ f, f ∈ [20, 27, 29, 30, 34, 35, 37, 39, 74, 43, 44, 45] → σ'.1 f = σ.1 f) (h2 : σ'.2 50 = σ.2 50) (ar e : Nat) : rI T G σ' ar e true = rI T G σ ar e true := by
  have hf : ∀ p, Lfnd T G σ' none e p = Lfnd T G σ none e p := fun p => (Lfnd_cg (fun f hf => h f (by revert f; decide)) h2 none e p).2
  rw [rI_t, rI_t, h 43 (by decide), h 44 (by decide), h 45 (by decide)]
  exact Prod.ext (funext hf) rfl
set_option maxRecDepth 20000 in
theorem qSize_cg {σ' : mS} (h : ∀ f, f ∈ [20, 27, 29, 30, 34, 35, 37, 38, 39, 40, 41, 42, 74, 43, 44, 45] → σ'.1 f = σ.1 f) (h2 : σ'.2 50 = σ.2 50) (ar e : Nat) : qSize T G σ' ar e = qSize T G σ ar e := by
  have hq := (qV_cg (σ := σ) (σ' := σ') (fun f hf => h f (by revert f; decide)) h2).1
  have hI : ∀ x, rI T G σ' ar x true = rI T G σ ar x true := fun x => rI_cgt (fun f hf => h f (by revert f; decide)) h2 ar x
  unfold qSize
  rw [h 43 (by decide)]
  have : (fun x => tmV σ' (rI T G σ' ar x true)) = fun x => tmV σ (rI T G σ ar x true) := by
    funext x
    unfold tmV
    rw [hI, hq]
  rw [this]
theorem oldIs.cg {e : Nat} {τ τ' : mS} (o : oldIs e σ τ) (h82 : τ'.1 82 = τ.1 82) (h83 : τ'.1 83 = τ.1 83) (h84 : τ'.1 84 = τ.1 84) : oldIs e σ τ' := by
  unfold oldIs
  rw [h82, h83, h84]
  exact o
theorem r_rest147 {e : Nat} (he : e < 30) {τ : mS} (o : oldIs e σ τ) (x2 : Int32) (c0 : Bool) : ∀ d m p, p + d = 15 → d < m → f_restyle_147 m (nI e) x2 (b2 (c0 || qAny (qDf σ τ e) p)) (nI p) τ = f_restyle_175 4000 (nI e) x2 (b2 (c0 || qAny (qDf σ τ e) 15)) (nI 0) τ := by
  intro d
  induction d with
  | zero =>
    intro m p hp hm
    obtain ⟨m, rfl⟩ : ∃ m', m = m' + 1 := ⟨m - 1, by omega⟩
    have hp : p = 15 := by omega
    subst hp
    rw [f_restyle_147, if_pos (show (15 : Int32) ≤ nI 15 by decide)]; rfl
  | succ d ih =>
    intro m p hp hm
    obtain ⟨m, rfl⟩ : ∃ m', m = m' + 1 := ⟨m - 1, by omega⟩
    rw [f_restyle_147, if_neg (ge15 (by omega)), r_differs o he (by omega), qqx, or_b2, nI_1, ← ih m (p + 1) (by omega) (by omega)]
    have : (qDf σ τ e p || (c0 || qAny (qDf σ τ e) p)) = (c0 || qAny (qDf σ τ e) (p + 1)) := by
      show _ = (c0 || (qAny (qDf σ τ e) p || qDf σ τ e p))
      cases c0 <;> cases qAny (qDf σ τ e) p <;> cases qDf σ τ e p <;> rfl
    rw [this]
def rsO (T : qqT) (G : qqG) (L : qqL) (σ σ' : mS) (had : Bool) (e : Nat) : Prop :=
  rT e σ σ' ∧ RNw σ' ∧ (∀ p, p < 12 → σ'.1 43 (12 * e + p) = qVl σ (rI T G σ 0 e false) p) ∧ (∀ v, v < 3 → (σ'.1 44 (3 * e + v), σ'.1 45 (3 * e + v)) = qVr σ (rI T G σ 0 e false) v) ∧
  (∀ p, p < 5 → σ'.1 47 (5 * e + p) = b2 (qIm σ (rI T G σ 0 e false) p)) ∧ σ'.1 46 e = (if 0 < σ'.1 43 (12 * e + 6) then qSize T G σ' 0 e else -1) ∧ (∀ p, p < 5 → trR σ σ' σ' had e p) ∧
  σ'.1 59 e = (if (!had || qDf σ σ' e 11) = true then (if 0 ≤ σ'.1 43 (12 * e + 11) ∧ σ'.1 43 (12 * e + 11) ≤ 3 then σ.2 54 else -1) else σ.1 59 e) ∧
  ∀ j, j < L.1 → σ'.1 69 j = if lxU L σ σ' had e j = true then 1 else σ.1 69 j
def rsC (σ σ' : mS) (had : Bool) (e : Nat) : Bool := (!had || decide (σ'.1 46 e ≠ σ.1 46 e)) || qAny (qDf σ σ' e) 15
theorem ix0 (k e : Nat) : k * (30 * 0 + e) = k * e := by rw [Nat.mul_zero, Nat.zero_add]
set_option maxRecDepth 20000 in
theorem r_restyle (hw : Tw T) (rs : RS T G σ) (hd : RDv T G σ) (hl : RLs T L σ) (hn : RNw σ) {e : Nat} (he : e < Tn T) (hD : TD T e = true) (hP : ∀ y, Tsp T e = some y → (∀ v, v < 3 → okP (rPr σ 0 y v)) ∧ ∀ p, p < 12 → bV (σ.1 43 (12 * y + p))) : ∃ σ', f_restyle (nI e) σ = some (b2 (rsC σ σ' (bt (σ.2 48) e) e), σ') ∧ rsO T G L σ σ' (bt (σ.2 48) e) e := by
  have h30 := hw.n30
  have he30 : e < 30 := by omega
  generalize hhad : bt (σ.2 48) e = had
  unfold f_restyle
  rw [r_bit _ (by omega), qqx, hhad, rd_46 (by omega), qqx]
  obtain ⟨τ0, z1, z2, z3⟩ := r_rest20 (σ := σ) he30 (b2 had) (σ.1 46 e) 12 4000 0 σ rfl (by decide) (sB.rf σ) (fun q hq => by omega)
  obtain ⟨τ1, m1, y1, y2, y3⟩ := r_rest55 (σ := σ) he30 (b2 had) (σ.1 46 e) 3 4000 0 τ0 rfl (by decide) (z2.wd (by decide) (by decide)) z3 (fun q hq => by omega)
  have y1' : f_restyle_20 4000 (nI e) (b2 had) (σ.1 46 e) 0 σ = f_restyle_55 (m1 + 1) (nI e) (b2 had) (σ.1 46 e) (nI 3) τ1 := z1.trans y1
  rw [y1']
  have rs1 : RS T G τ1 := rs.sB y2 (by decide) (by decide)
  have hI1 : rI T G τ1 0 e false = rI T G σ 0 e false := rI_cg (fun f hf => y2.1 f (by revert f; decide)) (y2.2 50 (by decide)) 0 e false
  have hqV := qV_cg (σ := σ) (σ' := τ1) (fun f hf => y2.1 f (by revert f; decide)) (y2.2 50 (by decide))
  have hd1 : RDv T G τ1 := hd.cg (fun f hf => y2.1 f (by revert f; decide))
  have hq : qiOK τ1 (rI T G τ1 0 e false) := rI_ok hw rs1.2.1 hd1 false he (fun y hy v hv => by
    have := (hP y hy).1 v hv
    unfold rPr at this ⊢
    rw [y2.1 44 (by decide), y2.1 45 (by decide)]
    exact this)
  obtain ⟨τ2, e2, w2, v2, l2⟩ := r_style (into := 0) (ar := 0) hw rs1 (by decide) (by decide) he hD false hq
  have hP1 : ∀ f, qiP (rI T G τ1 0 e false) = some f → ∀ p, p < 12 → bV (f p) := by
    intro f hf p hp
    rw [rI_P] at hf
    cases hs : Tsp T e with
    | none => rw [hs] at hf; cases hf
    | some y =>
      rw [hs] at hf
      cases hf
      show bV (τ1.1 43 (12 * (30 * 0 + y) + p))
      rw [ix0, y2.1 43 (by decide)]
      exact (hP y hs).2 p hp
  have e2' : f_style (nI e) 0 0 0 τ1 = some τ2 := e2
  have rs2 : RS T G τ2 := rs1.W w2
  have hd2 : RDv T G τ2 := hd1.cg (fun f hf => w2.2.1 f (by revert f; decide))
  have val2 : ∀ p, p < 12 → τ2.1 43 (12 * e + p) = qVl σ (rI T G σ 0 e false) p := by
    intro p hp
    have := (l2 p hp (Or.inl hp) (fun z => by cases z)).1
    rw [ix0, hqV.1, hI1] at this
    exact this
  have im2 : ∀ p, p < 5 → τ2.1 47 (5 * e + p) = b2 (qIm σ (rI T G σ 0 e false) p) := by
    intro p hp
    have := (l2 p (by omega) (Or.inl (by omega)) (fun z => by cases z)).2 rfl hp
    rw [hqV.2.2.1, hI1] at this
    exact this
  have var2 : ∀ v, v < 3 → (τ2.1 44 (3 * e + v), τ2.1 45 (3 * e + v)) = qVr σ (rI T G σ 0 e false) v := by
    intro v hv
    have := v2 v hv
    rw [ix0, hqV.2.1, hI1] at this
    exact Prod.ext this.1 this.2
  have bv2 : ∀ p, p < 12 → bV (τ2.1 43 (12 * e + p)) := by
    intro p hp
    rw [val2 p hp, ← hqV.1, ← hI1]
    exact qVl_b hq hP1 hp
  have ok2 : ∀ v, v < 3 → okP (rPr τ2 0 e v) := by
    intro v hv
    unfold rPr
    rw [ix0, var2 v hv, ← hqV.2.1, ← hI1]
    exact qVar_ok hq.v hq.2 hv
  obtain ⟨τ3, e3, a3⟩ := r_sized (ar := 0) hw rs2 hd2 (by decide) he hD ok2
  have e3' : f_sized (nI e) 0 τ2 = some (if 0 < τ2.1 43 (12 * e + 6) then qSize T G τ2 0 e else -1, τ3) := by
    have := e3
    rw [ix0] at this
    exact this
  generalize hsz9 : (if 0 < τ2.1 43 (12 * e + 6) then qSize T G τ2 0 e else (-1 : Int32)) = zv at e3'
  have rT3 : rT e σ τ3 := ((rT.of_sB (y2.wd (by decide) (by decide))).tr (rT.of_W w2)).tr (rT.of_a2 a3)
  have rT4 : rT e σ (up τ3 46 e zv) := rT3.u46
  have h54 : (up τ3 46 e zv).2 54 = σ.2 54 := rT4.1 54 (by decide)
  have old4 : oldIs e σ (up τ3 46 e zv) := by
    refine y3.cg ?_ ?_ ?_ <;> (rw [up_o (by decide), a3.1 _ (by decide), w2.2.1 _ (by decide)])
  have h85 : (up τ3 46 e zv).1 85 = σ.1 85 := rT4.o
  have v43 : ∀ i, i < 720 → (up τ3 46 e zv).1 43 i = τ2.1 43 i := fun i hi => by rw [up_o (by decide), a3.2.1 i hi]
  have v44 : ∀ i, i < 180 → (up τ3 46 e zv).1 44 i = τ2.1 44 i ∧ (up τ3 46 e zv).1 45 i = τ2.1 45 i := fun i hi => by
    rw [up_o (by decide), up_o (by decide)]; exact a3.2.2.1 i hi
  have tr4 : ∀ p, trS (5 * e + p) σ (up τ3 46 e zv) := by
    intro p
    have g : ∀ f, f ∈ [55, 56, 57, 58] → (up τ3 46 e zv).1 f = σ.1 f := fun f hf => by
      rw [up_o (by revert f; decide), a3.1 f (by revert f; decide), w2.2.1 f (by revert f; decide), y2.1 f (by revert f; decide)]
    unfold trS
    rw [g 55 (by decide), g 56 (by decide), g 57 (by decide), g 58 (by decide)]
    exact ⟨rfl, rfl, rfl, rfl⟩
  have hn4 : RNw (up τ3 46 e zv) := by
    obtain ⟨nw, n1, n2, n3, n4⟩ := hn
    have g : ∀ f, f ∈ [55, 56, 59] → (up τ3 46 e zv).1 f = σ.1 f := fun f hf => by
      rw [up_o (by revert f; decide), a3.1 f (by revert f; decide), w2.2.1 f (by revert f; decide), y2.1 f (by revert f; decide)]
    refine ⟨nw, n1, by rw [h54]; exact n2, ?_, ?_⟩
    · rw [g 59 (by decide)]; exact n3
    · rw [g 55 (by decide), g 56 (by decide)]; exact n4
  have hl4 : RLs T L (up τ3 46 e zv) := by
    obtain ⟨l1, l2, l3⟩ := hl
    refine ⟨by rw [rT4.1 70 (by decide)]; exact l1, l2, ?_⟩
    rw [rT4.o (f := 65), rT4.o (f := 66), rT4.o (f := 67), rT4.o (f := 68)]
    exact l3
  have fin : ∀ c0 : Bool, c0 = (!had || decide (zv ≠ σ.1 46 e)) → ∃ σ', f_restyle_142 (nI e) (b2 had) (b2 c0) (up τ3 46 e zv) = some (b2 (rsC σ σ' had e), σ') ∧ rsO T G L σ σ' had e := by
    intro c0 hc0
    unfold f_restyle_142
    have h147 := r_rest147 he30 old4 (b2 had) c0 15 4000 0 rfl (by decide)
    rw [show (c0 || qAny (qDf σ (up τ3 46 e zv) e) 0) = c0 by show (c0 || false) = c0; rw [Bool.or_false]] at h147
    rw [show (0 : Int32) = nI 0 from rfl, h147]
    generalize hch : (c0 || qAny (qDf σ (up τ3 46 e zv) e) 15) = ch
    obtain ⟨τ5, m5, e5, t5, n5⟩ := r_tr175 (σ := σ) he30 had hn old4 h85 h54 (by rw [v43 _ (by omega)]; exact bv2 10 (by decide)) (b2 ch) 5 4000 0 _ rfl (by decide) ⟨rfl, fun _ _ => rfl, fun _ _ => ⟨rfl, rfl, rfl, rfl⟩, fun q hq => by omega, fun q _ _ => tr4 q⟩ hn4
    rw [e5]
    obtain ⟨t51, t52, t53, t54, -⟩ := t5
    have old5 : oldIs e σ τ5 := old4.cg (t52 82 (by decide)) (t52 83 (by decide)) (t52 84 (by decide))
    have rT5 : rT e σ τ5 := by
      refine rT4.tr ⟨fun f _ => by rw [t51], fun f hf => t52 f (fun z => hf ((show ∀ f ∈ [55, 56, 57, 58], f ∈ [43, 44, 45, 46, 47, 55, 56, 57, 58, 59, 69, 78, 82, 83, 84] by decide) f z)), fun i _ _ => by rw [t52 43 (by decide)], fun i _ _ => by rw [t52 44 (by decide), t52 45 (by decide)]; exact ⟨rfl, rfl⟩, fun i _ => by rw [t52 46 (by decide)], fun i hi => ?_, fun i _ => by rw [t52 59 (by decide)]⟩
      obtain ⟨a, b, c, d⟩ := t53 i hi
      exact ⟨by rw [t52 47 (by decide)], a, b, c, d⟩
    rw [f_restyle_175, if_pos (show (5 : Int32) ≤ nI 5 by decide), show (12 : Int32) = nI 12 from rfl, show (11 : Int32) = nI 11 from rfl, pk_mul, nI_add, rd_43 (by omega), qqx, r_in, qqx, b2_i0, r_differs old5 he30 (by decide)]
    have q11 : τ5.1 43 (12 * e + 11) = τ2.1 43 (12 * e + 11) := by rw [t52 43 (by decide), v43 _ (by omega)]
    have end2 : ∀ y : Int32, y = (if (!had || qDf σ τ5 e 11) = true then (if 0 ≤ τ5.1 43 (12 * e + 11) ∧ τ5.1 43 (12 * e + 11) ≤ 3 then σ.2 54 else -1) else σ.1 59 e) → ∃ σ', f_restyle_256 (nI e) (b2 had) (b2 ch) (nI e) y τ5 = some (b2 (rsC σ σ' had e), σ') ∧ rsO T G L σ σ' had e := by
      intro y hy
      unfold f_restyle_256
      rw [wr_59 he30, qqx]
      have rT6 : rT e σ (up τ5 59 e y) := rT5.u59
      have old6 : oldIs e σ (up τ5 59 e y) := old5.cg (up_o (by decide)) (up_o (by decide)) (up_o (by decide))
      have hl6 : RLs T L (up τ5 59 e y) := by
        obtain ⟨l1, l2, l3⟩ := hl
        refine ⟨by rw [rT6.1 70 (by decide)]; exact l1, l2, ?_⟩
        rw [rT6.o (f := 65), rT6.o (f := 66), rT6.o (f := 67), rT6.o (f := 68)]
        exact l3
      obtain ⟨σ', e7, b7, x7⟩ := r_lx (σ := σ) he30 hw had hl6 old6 ch L.1 4000 0 _ (by omega) (by have := hl.2.1; omega) (sB.rf _) (fun j hj => by omega) (fun j _ => rfl)
      have g7 : ∀ f, f ≠ 69 → σ'.1 f = (up τ5 59 e y).1 f := fun f hf => b7.1 f (by simpa using hf)
      have s2 : σ'.2 = (up τ5 59 e y).2 := funext fun f => b7.2 f (by simp)
      have c43 : ∀ i, i < 720 → σ'.1 43 i = τ2.1 43 i := fun i hi => by rw [g7 43 (by decide), up_o (by decide), t52 43 (by decide), v43 i hi]
      have c44 : ∀ i, i < 180 → σ'.1 44 i = τ2.1 44 i ∧ σ'.1 45 i = τ2.1 45 i := fun i hi => by
        rw [g7 44 (by decide), g7 45 (by decide), up_o (by decide), up_o (by decide), t52 44 (by decide), t52 45 (by decide)]; exact v44 i hi
      have c46 : σ'.1 46 e = zv := by rw [g7 46 (by decide), up_o (by decide), t52 46 (by decide), up_ss]
      have d43 : σ'.1 43 = τ5.1 43 := by rw [g7 43 (by decide), up_o (by decide)]
      have d44 : σ'.1 44 = τ5.1 44 := by rw [g7 44 (by decide), up_o (by decide)]
      have d45 : σ'.1 45 = τ5.1 45 := by rw [g7 45 (by decide), up_o (by decide)]
      have f43 : σ'.1 43 = (up τ3 46 e zv).1 43 := by rw [d43, t52 43 (by decide)]
      have f44 : σ'.1 44 = (up τ3 46 e zv).1 44 := by rw [d44, t52 44 (by decide)]
      have f45 : σ'.1 45 = (up τ3 46 e zv).1 45 := by rw [d45, t52 45 (by decide)]
      have hdf : ∀ p, qDf σ σ' e p = qDf σ (up τ3 46 e zv) e p := fun p => by unfold qDf; rw [f43, f44, f45]
      have hdf5 : ∀ p, qDf σ σ' e p = qDf σ τ5 e p := fun p => by unfold qDf; rw [d43, d44, d45]
      have hdf6 : ∀ p, qDf σ (up τ5 59 e y) e p = qDf σ σ' e p := fun p => by unfold qDf; rw [up_o (by decide), up_o (by decide), up_o (by decide), d43, d44, d45]
      refine ⟨σ', ?_, rT6.tr (rT.of_sB (b7.wd (by decide) (by decide))), ?_, fun p hp => ?_, fun v hv => ?_, fun p hp => ?_, ?_, fun p hp => ?_, ?_, fun j hj => ?_⟩
      · rw [show (0 : Int32) = nI 0 from rfl, e7, ← hch, hc0]
        have : rsC σ σ' had e = (!had || decide (zv ≠ σ.1 46 e) || qAny (qDf σ (up τ3 46 e zv) e) 15) := by
          unfold rsC
          rw [c46, qAny_cg (fun i _ => hdf i)]
        rw [this]
      · obtain ⟨nw, n1, n2, n3, n4⟩ := n5
        have h54' : τ5.2 54 = σ.2 54 := rT5.1 54 (by decide)
        have hn54 : σ.2 54 = nI nw := by rw [← h54']; exact n2
        refine ⟨nw, n1, by rw [s2]; exact n2, fun x hx => ?_, ?_⟩
        · rw [g7 59 (by decide), up_s]
          by_cases c : x = e
          · rw [if_pos c, hy]
            by_cases c1 : (!had || qDf σ τ5 e 11) = true
            · rw [if_pos c1]
              by_cases c2 : 0 ≤ τ5.1 43 (12 * e + 11) ∧ τ5.1 43 (12 * e + 11) ≤ 3
              · rw [if_pos c2]; exact Or.inr ⟨nw, Nat.le_refl _, hn54⟩
              · rw [if_neg c2]; exact Or.inl rfl
            · rw [if_neg c1]
              have := n3 e he30
              rw [t52 59 (by decide), up_o (by decide), a3.1 59 (by decide), w2.2.1 59 (by decide), y2.1 59 (by decide)] at this
              exact this
          · rw [if_neg c]; exact n3 x hx
        · rw [g7 55 (by decide), g7 56 (by decide), up_o (by decide), up_o (by decide)]; exact n4
      · rw [c43 _ (by omega)]; exact val2 p hp
      · rw [(c44 _ (by omega)).1, (c44 _ (by omega)).2]; exact var2 v hv
      · rw [g7 47 (by decide), up_o (by decide), t52 47 (by decide), up_o (by decide), a3.1 47 (by decide)]; exact im2 p hp
      · rw [c46, c43 _ (by omega), ← hsz9]
        have hq9 : qSize T G σ' 0 e = qSize T G τ2 0 e := by
          have k : rA2 τ2 σ' ∨ True := Or.inr trivial
          have kI : ∀ x, tmV σ' (rI T G σ' 0 x true) = tmV τ2 (rI T G τ2 0 x true) := by
            intro x
            have ga : ∀ f, f ∈ [20, 27, 29, 30, 34, 35, 37, 38, 39, 40, 41, 42, 74] → σ'.1 f = τ3.1 f := fun f hf => by
              rw [g7 f (by revert f; decide), up_o (by revert f; decide), t52 f (by revert f; decide), up_o (by revert f; decide)]
            have s50 : σ'.2 50 = τ3.2 50 := by rw [s2]; show τ5.2 50 = _; rw [t51]; rfl
            have r1 : tmV σ' (rI T G σ' 0 x true) = tmV τ3 (rI T G τ3 0 x true) := by
              have q43 : σ'.1 43 = τ3.1 43 := by rw [f43, up_o (by decide)]
              have q44 : σ'.1 44 = τ3.1 44 := by rw [f44, up_o (by decide)]
              have q45 : σ'.1 45 = τ3.1 45 := by rw [f45, up_o (by decide)]
              have hq := (qV_cg (σ := τ3) (σ' := σ') (fun f hf => ga f (by revert f; decide)) s50).1
              have hI : rI T G σ' 0 x true = rI T G τ3 0 x true := rI_cgt (fun f hf => by
                by_cases c3 : f = 43
                · rw [c3, q43]
                by_cases c4 : f = 44
                · rw [c4, q44]
                by_cases c5 : f = 45
                · rw [c5, q45]
                exact ga f (by simp only [List.mem_cons, List.not_mem_nil, or_false] at hf ⊢; omega)) s50 0 x
              unfold tmV
              rw [hI, hq]
            rw [r1]
            exact rI_a2 a3 hw (by decide)
          unfold qSize
          rw [ix0, c43 _ (by omega)]
          have : (fun x => tmV σ' (rI T G σ' 0 x true)) = fun x => tmV τ2 (rI T G τ2 0 x true) := funext kI
          rw [this]
        rw [hq9]
      · have h := t54 p hp
        have t55 : trS (5 * e + p) τ5 σ' := by
          unfold trS
          rw [g7 55 (by decide), g7 56 (by decide), g7 57 (by decide), g7 58 (by decide), up_o (by decide), up_o (by decide), up_o (by decide), up_o (by decide)]
          exact ⟨rfl, rfl, rfl, rfl⟩
        rw [trR_cg (τ0 := up τ3 46 e zv) (τ := τ5) f43 f44 f45 t55]
        exact h
      · rw [g7 59 (by decide), up_ss, hy, hdf5, d43]
      · have hj6 := x7 j hj
        rw [hj6]
        unfold lxU
        rw [hdf6, up_o (show 69 ≠ 59 by decide), t52 69 (by decide), up_o (show 69 ≠ 46 by decide), a3.1 69 (by decide), w2.2.1 69 (by decide), y2.1 69 (by decide)]
    have h234 : ∀ c2 : Bool, c2 = decide (0 ≤ τ5.1 43 (12 * e + 11) ∧ τ5.1 43 (12 * e + 11) ≤ 3) → (!had || qDf σ τ5 e 11) = true → ∃ σ', f_restyle_234 (nI e) (b2 had) (b2 ch) (b2 c2) (nI e) τ5 = some (b2 (rsC σ σ' had e), σ') ∧ rsO T G L σ σ' had e := by
      intro c2 hc2 hh
      have h54' : τ5.2 54 = σ.2 54 := rT5.1 54 (by decide)
      unfold f_restyle_234
      rw [b2_i0]
      by_cases c : 0 ≤ τ5.1 43 (12 * e + 11) ∧ τ5.1 43 (12 * e + 11) ≤ 3
      · rw [hc2, if_pos (decide_eq_true c), h54']
        exact end2 _ (by rw [if_pos hh, if_pos c])
      · rw [hc2, if_neg (by rw [decide_eq_true_eq]; exact c)]
        exact end2 _ (by rw [if_pos hh, if_neg c])
    cases had with
    | false => rw [if_neg (by decide)]; exact h234 _ rfl rfl
    | true =>
      rw [if_pos rfl, qqx, b2_i0]
      by_cases c : qDf σ τ5 e 11 = true
      · rw [if_pos c]; exact h234 _ rfl (by rw [c]; rfl)
      · rw [if_neg c, rd_59 he30, qqx]
        refine end2 _ ?_
        rw [Bool.not_eq_true _ |>.mp c, if_neg (by decide), t52 59 (by decide), up_o (by decide), a3.1 59 (by decide), w2.2.1 59 (by decide), y2.1 59 (by decide)]
  rw [f_restyle_55, if_pos (show (3 : Int32) ≤ nI 3 by decide), e2', qqx, e3', qqx, wr_46 (by omega), qqx, b2_i0]
  unfold f_restyle_137
  cases had with
  | false => rw [if_neg (by decide)]; exact fin true rfl
  | true =>
    rw [if_pos rfl, rd_46 (by omega), qqx, up_ss]
    by_cases c : zv = σ.1 46 e
    · rw [if_pos c]; exact fin false (by rw [decide_eq_false (fun z => z c)]; rfl)
    · rw [if_neg c]; exact fin true (by rw [decide_eq_true c]; rfl)
end RR2
