def rY (y : Nat) (σ σ' : mS) : Prop := (∀ p, p < 12 → σ'.1 43 (12 * y + p) = σ.1 43 (12 * y + p)) ∧ (∀ v, v < 3 → σ'.1 44 (3 * y + v) = σ.1 44 (3 * y + v) ∧ σ'.1 45 (3 * y + v) = σ.1 45 (3 * y + v)) ∧ σ'.1 46 y = σ.1 46 y ∧ (∀ p, p < 5 → σ'.1 47 (5 * y + p) = σ.1 47 (5 * y + p) ∧ σ'.1 55 (5 * y + p) = σ.1 55 (5 * y + p) ∧ σ'.1 56 (5 * y + p) = σ.1 56 (5 * y + p) ∧ σ'.1 57 (5 * y + p) = σ.1 57 (5 * y + p) ∧ σ'.1 58 (5 * y + p) = σ.1 58 (5 * y + p)) ∧ σ'.1 59 y = σ.1 59 y
theorem rY.rf {y : Nat} (σ : mS) : rY y σ σ := ⟨fun _ _ => rfl, fun _ _ => ⟨rfl, rfl⟩, rfl, fun _ _ => ⟨rfl, rfl, rfl, rfl, rfl⟩, rfl⟩
theorem rT.y {e y : Nat} {σ σ' : mS} (h : rT e σ σ') (hy : y ≠ e) (h30 : y < 30) : rY y σ σ' := by
  obtain ⟨-, -, h3, h4, h5, h6, h7⟩ := h
  exact ⟨fun p hp => h3 _ (by omega) (by omega), fun v hv => h4 _ (by omega) (by omega), h5 y hy, fun p hp => h6 _ (by omega), h7 y hy⟩
theorem rY.of {y : Nat} {σ σ' : mS} (h : ∀ f, f ∈ [43, 44, 45, 46, 47, 55, 56, 57, 58, 59] → σ'.1 f = σ.1 f) : rY y σ σ' := by
  unfold rY
  rw [h 43 (by decide), h 44 (by decide), h 45 (by decide), h 46 (by decide), h 47 (by decide), h 55 (by decide), h 56 (by decide), h 57 (by decide), h 58 (by decide), h 59 (by decide)]
  exact rY.rf σ
theorem rA2.y {y : Nat} {σ σ' : mS} (h : rA2 σ σ') (h30 : y < 30) : rY y σ σ' := by
  have g : ∀ f, f ∉ [43, 44, 45, 78] → σ'.1 f = σ.1 f := h.1
  refine ⟨fun p hp => h.2.1 _ (by omega), fun v hv => h.2.2.1 _ (by omega), by rw [g 46 (by decide)], fun p hp => ?_, by rw [g 59 (by decide)]⟩
  rw [g 47 (by decide), g 55 (by decide), g 56 (by decide), g 57 (by decide), g 58 (by decide)]
  exact ⟨rfl, rfl, rfl, rfl, rfl⟩
theorem rY.tr {y : Nat} {a b c : mS} (h : rY y a b) (k : rY y b c) : rY y a c := by
  obtain ⟨h1, h2, h3, h4, h5⟩ := h
  obtain ⟨k1, k2, k3, k4, k5⟩ := k
  refine ⟨fun p hp => (k1 p hp).trans (h1 p hp), fun v hv => ⟨(k2 v hv).1.trans (h2 v hv).1, (k2 v hv).2.trans (h2 v hv).2⟩, k3.trans h3, fun p hp => ?_, k5.trans h5⟩
  obtain ⟨a1, a2, a3, a4, a5⟩ := h4 p hp
  obtain ⟨c1, c2, c3, c4, c5⟩ := k4 p hp
  exact ⟨c1.trans a1, c2.trans a2, c3.trans a3, c4.trans a4, c5.trans a5⟩
theorem eRl.cg {K K' : kS} {σ σ' : mS} {y : Nat} (r : eRl K σ y) (h : rY y σ σ') (h48 : bt (σ'.2 48) y = bt (σ.2 48) y) (hK : ∀ k j, 6 ≤ k → k ≤ 10 → (k = 6 → j ≠ 4) → K'.1 k y j = K.1 k y j) : eRl K' σ' y := by
  obtain ⟨h1, h2, h3, h4, h5⟩ := h
  obtain ⟨r1, r2, r3, r4, r5, r6⟩ := r
  have r1 := vEqv_w.mp r1
  refine ⟨vEqv_w.mpr ⟨⟨fun p hp => ?_, fun v hv => ?_⟩, ?_⟩, fun p hp => ?_, fun p hp => ?_, ?_, fun p hp => ?_, ?_⟩
  · rw [hK 7 p (by decide) (by decide) (by omega), h1 p hp]; exact r1.1.1 p hp
  · rw [hK 7 _ (by decide) (by decide) (by omega), (h2 v hv).1, (h2 v hv).2]; exact r1.1.2 v hv
  · rw [hK 6 2 (by decide) (by decide) (by decide), h1 6 (by decide), h3]; exact r1.2
  · obtain ⟨a1, a2, a3, a4, a5⟩ := h4 p hp
    unfold tEq
    rw [hK 8 p (by decide) (by decide) (by omega), hK 9 p (by decide) (by decide) (by omega), hK 10 p (by decide) (by decide) (by omega), a2, a3, a4, a5, h1 p (by omega)]
    exact r2 p hp
  · rw [hK 6 3 (by decide) (by decide) (by decide), (h4 p hp).1]; exact r3 p hp
  · rw [h48, h1 6 (by decide), h3]
    intro z
    refine ⟨fun k hk => ?_, (r4 z).2⟩
    rw [hK 6 8 (by decide) (by decide) (by decide), h5]
    refine (r4 z).1 k ?_
    unfold qPy at hk ⊢
    rw [h1 11 (by decide)] at hk
    exact hk
  · rw [h1 p hp]; exact r5 p hp
  · rw [hK 6 1 (by decide) (by decide) (by decide), h48]; exact r6
theorem qSeen_cg {σ σ' : mS} {y p : Nat} (hp : p < 5) (h : rY y σ σ') (ha : ∀ f, f ∈ [60, 61, 62, 63, 64] → σ'.1 f = σ.1 f) (h54 : σ'.2 54 = σ.2 54) : qSeen σ' y p = qSeen σ y p := by
  obtain ⟨h1, h2, h3, h4, h5⟩ := h
  obtain ⟨a1, a2, a3, a4, a5⟩ := h4 p hp
  have e1 : aSt σ' = aSt σ := by funext a p t; unfold aSt; rw [ha 63 (by decide)]
  have e2 : aFn σ' = aFn σ := by funext a p t; unfold aFn; rw [ha 64 (by decide)]
  have e3 : aLn σ' = aLn σ := by funext a; unfold aLn; rw [ha 60 (by decide)]
  have e4 : aGg σ' = aGg σ := by funext a g; unfold aGg; rw [e3, ha 62 (by decide)]
  have e5 : aFs σ' = aFs σ := by funext a p g; unfold aFs; rw [e1, e3]
  have e6 : aNx σ' = aNx σ := by funext a p g; unfold aNx; rw [e1, e3]
  have e7 : qFr σ' = qFr σ := by funext a p g b; unfold qFr; rw [e2, e3, e5, e6]
  have e8 : aAny σ' = aAny σ := by funext a p; unfold aAny; rw [e1]
  have e9 : qMv σ' y p = qMv σ y p := by unfold qMv; rw [a2, a3, h54]
  have e10 : qPl σ' y p = qPl σ y p := by unfold qPl; rw [h1 11 (by decide), e8, h5, h54, ha 60 (by decide), ha 61 (by decide)]
  have e11 : qBs σ' y p = qBs σ y p := by unfold qBs; rw [h1 p (by omega)]
  unfold qSeen
  rw [e9, e10, e11, e7, e4, a1, a2, a3, a4, a5, h5, h54, h1 11 (by decide), h1 p (by omega)]
section FS2
variable {T : qqT} {G : qqG} {A : kA} {ex : Nat → Nat → Prop} {K K' : kS} {S : cS} {σ σ' : mS}
def FXI (k i j : Nat) : Prop := (6 ≤ k ∧ k ≤ 10) ∨ k = 44 ∨ k = 45 ∨ (k = 49 ∧ i = 0 ∧ 12 ≤ j ∧ j ≤ 15)
def FXR (k _i j : Nat) : Prop := k = 61 ∨ (k = 44 ∧ j = 9)
theorem FXI_q {k i j : Nat} (z : FXI k i j) : qOI k i j := by unfold FXI at z; unfold qOI; omega
theorem FXR_q {k i j : Nat} (z : FXR k i j) : qOR k i j := by unfold FXR at z; unfold qOR; omega
theorem kB.fxq (b : kB FXI FXR K K') : kB qOI qOR K K' := b.wd (fun _ _ _ z => FXI_q z) (fun _ _ _ z => FXR_q z)
theorem RZI_fx {e k i j : Nat} (z : RZI e k i j) : FXI k i j := by unfold RZI ZI FI at z; unfold FXI; omega
theorem ZR_fx {k i j : Nat} (z : ZR k i j) : FXR k i j := by unfold ZR SR FR at z; unfold FXR; omega
theorem RIc_fx {e k i j : Nat} (z : RIc e k i j) : FXI k i j := by unfold RIc AIe FI at z; unfold FXI; omega
theorem RRc_fx {k i j : Nat} (z : RRc k i j) : FXR k i j := by unfold RRc SR FR at z; unfold FXR; omega
theorem chS_fx {e : Nat} {R : List Nat} (c : chS K e R) (b : kB FXI FXR K K') : chS K' e R := chS_kB c b (fun i z => by unfold FXR at z; omega)
theorem c_f146 (t : KT T ex K) (h : KA A ex K S) {e : Nat} (he : e < Tn T) {R : List Nat} (c : chS K e R) {k28 : Option Nat → cS → Option cS} : f_X11_flush_146 k28 (A 49 0) (some (A 0 e)) S = k28 (el A R.head?) S := by
  unfold f_X11_flush_146
  rw [g17 t h he (chS_ro c), qqx]
theorem c_f127 (x : KX T G A ex K σ) (h : KA A ex K S) {e : Nat} (he : e < Tn T) {R : List Nat} (c : chS K e R) (b : Bool) : ∃ S' K', (∀ k28 : Option Nat → cS → Option cS, f_X11_flush_127 k28 (A 49 0) (some (A 0 e)) (b2 b) S = k28 (el A R.head?) S') ∧ KA A ex K' S' ∧ kB (fun k i j => k = 49 ∧ i = 0 ∧ j = 15) F3 K K' ∧ K'.1 49 0 15 = if b = true then K.1 49 0 15 ||| ((1 : Int32) <<< (nI e &&& 31)) else K.1 49 0 15 := by
  unfold f_X11_flush_127
  cases b with
  | false =>
    exact ⟨S, K, fun k28 => by rw [b2_i0, if_neg (by decide)]; exact c_f146 x.1.2.1 h he c, h, kB.rf K, by rw [if_neg (by decide)]⟩
  | true =>
    obtain ⟨S1, e1, h1⟩ := h.PI (k := 49) (i := 0) (t := 11) (j := 15) (x.1.2.2.1.x (by decide) (by decide) (by decide)) rfl (by decide) (K.1 49 0 15 ||| ((1 : Int32) <<< (nI e &&& 31)))
    have b1 : kB (fun k i j => k = 49 ∧ i = 0 ∧ j = 15) F3 K (kwI K 49 0 15 (K.1 49 0 15 ||| ((1 : Int32) <<< (nI e &&& 31)))) := (kB.rf K).I ⟨rfl, rfl, rfl⟩
    have x1 := x.va (b1.wd (QI := qOI) (QR := qOR) (fun k i j z => by unfold qOI; omega) (fun _ _ _ z => z.elim))
    exact ⟨S1, _, fun k28 => by rw [b2_i0, if_pos rfl, x.1.2.2.1.I49 h, qqx, x.1.2.1.gn h he, qqx, e1, qqx]; exact c_f146 x1.1.2.1 h1 he (chS_kB c b1 (fun _ z => z)), h1, b1, by rw [if_pos rfl]; exact kwI_s _ _ _ _ _⟩
theorem c_f106 (hw : Tw T) (x : KX T G A ex K σ) (h : KA A ex K S) {e : Nat} (he : e < Tn T) (hD : TD T e = true) (ve : vEqw K σ e) (ha : kAnc T K σ false e) {R : List Nat} (c : chS K e R) (b : Bool) : ∃ S' K', (∀ k28 : Option Nat → cS → Option cS, f_X11_flush_106 k28 (A 49 0) (some (A 0 e)) (b2 b) S = k28 (el A R.head?) S') ∧ KA A ex K' S' ∧ kB (fun k i j => RZI e k i j ∨ (k = 49 ∧ i = 0 ∧ j = 15)) ZR K K' ∧ (K'.1 6 e 2 = if 0 < σ.1 43 (12 * e + 6) then qSize T G σ 0 e else K.1 6 e 2) ∧ K'.1 49 0 15 = if (b || (decide (0 < σ.1 43 (12 * e + 6)) && decide (qSize T G σ 0 e ≠ K.1 6 e 2))) = true then K.1 49 0 15 ||| ((1 : Int32) <<< (nI e &&& 31)) else K.1 49 0 15 := by
  have t := x.1.2.1
  have p9 := x.1.2.2.1
  have st := kSt_of hw t p9 x.2.1 false he
  have g0 : gR S (some (A 6 e)) 9 0 = some (some (A 7 e)) := st.v h
  have a6 : aI S (some (A 7 e)) (nI 6) = some (σ.1 43 (12 * e + 6)) := by
    have : aI S (some (A 7 e)) (nI 6) = some (K.1 7 e 6) := st.a h (by decide)
    rw [this, ve.1 6 (by decide)]
  unfold f_X11_flush_106
  by_cases c6 : σ.1 43 (12 * e + 6) ≤ 0
  · have c7 : ¬ 0 < σ.1 43 (12 * e + 6) := Int32.not_lt.mpr c6
    rw [if_neg c7, decide_eq_false c7, Bool.false_and, Bool.or_false]
    obtain ⟨S1, K1, e1, h1, b1, m1⟩ := c_f127 (σ := σ) (G := G) x h he c b
    exact ⟨S1, K1, fun k28 => by rw [t.g19 h he, qqx, g0, qqx, show (6 : Int32) = nI 6 from rfl, a6, qqx, if_pos c6]; exact e1 k28, h1, b1.wd (fun _ _ _ z => Or.inr z) (fun _ _ _ z => z.elim), b1.1 6 e 2 (by omega), m1⟩
  · have c7 : 0 < σ.1 43 (12 * e + 6) := Int32.not_le.mp c6
    obtain ⟨S1, K1, e1, h1, b1, s1⟩ := c_renewSize hw x h he hD ve ha
    have b1x : kB FXI FXR K K1 := b1.wd (fun _ _ _ z => RZI_fx z) (fun _ _ _ z => ZR_fx z)
    have x1 := x.va b1x.fxq
    rw [if_pos c7, decide_eq_true c7, Bool.true_and]
    obtain ⟨S2, K2, e2, h2, bb2, m2⟩ := c_f127 (σ := σ) (G := G) x1 h1 he (chS_fx c b1x) (decide (qSize T G σ 0 e ≠ K.1 6 e 2) || b)
    refine ⟨S2, K2, fun k28 => by rw [t.g19 h he, qqx, g0, qqx, show (6 : Int32) = nI 6 from rfl, a6, qqx, if_neg c6, p9.r11 h, qqx, e1, qqx, or_b2]; exact e2 k28, h2, (b1.wd (fun _ _ _ z => Or.inl z) (fun _ _ _ z => z)).tr (bb2.wd (fun _ _ _ z => Or.inr z) (fun _ _ _ z => z.elim)), by rw [bb2.1 6 e 2 (by omega), s1], ?_⟩
    rw [m2, b1.1 49 0 15 (by unfold RZI ZI FI; omega), Bool.or_comm]
end FS2
