section QE
variable {T T' : qqT} {G : qqG} {σ σ' : mS} {e : Nat} {o : Option Int32}
theorem PEq.v {P P' : Option ((Nat → Int32) × (Nat → qP))} (h : PEq P' P) : ∀ v, v < 3 → vIn (P'.map (fun x => x.2)) v = vIn (P.map (fun x => x.2)) v := fun v hv => by
  rcases h with ⟨g1, g2⟩ | ⟨f, g, g1, g2, -, g4⟩
  · rw [g1, g2]
  · rw [g1, g2]; exact g4 v hv
theorem qV_loc {I I' : qI} (h1 : ∀ p, p < 15 → I'.1 p = I.1 p) (h2 : PEq I'.2.1 I.2.1) (h3 : I.2.1 ≠ none → I'.2.2.1 = I.2.2.1) (h4 : I'.2.2.2 = I.2.2.2) (hf : ∀ p, p < 15 → ∀ a, I.1 p = some a → ∀ f, f ∈ [37, 38, 40, 41, 42] → σ'.1 f (16 * a + p) = σ.1 f (16 * a + p)) (h50 : σ'.2 50 = σ.2 50) : (∀ v, qVr σ' I' v = qVr σ I v) ∧ ∀ p, p < 12 → qVl σ' I' p = qVl σ I p := by
  have hin := h2.v
  have nd : ∀ v, v < 3 → vNd σ' v (I.1 (12 + v)) = vNd σ v (I.1 (12 + v)) := fun v hv => by
    cases hb : I.1 (12 + v) with
    | none => rfl
    | some a => unfold vNd; show decide _ = decide _; rw [hf (12 + v) (by omega) a hb 37 (by decide)]
  have am : ∀ v, v < 3 → vAm σ' v (I.1 (12 + v)) = vAm σ v (I.1 (12 + v)) := fun v hv => by
    cases hb : I.1 (12 + v) with
    | none => rfl
    | some a => show (σ'.1 40 (16 * a + (12 + v))).toNatClampNeg - 12 = (σ.1 40 (16 * a + (12 + v))).toNatClampNeg - 12; rw [hf (12 + v) (by omega) a hb 40 (by decide)]
  have se : ∀ v, v < 3 → vSe σ' v (I.1 (12 + v)) = vSe σ v (I.1 (12 + v)) := fun v hv => by
    cases hb : I.1 (12 + v) with
    | none => rfl
    | some a => show decide (0 ≤ σ'.1 41 (16 * a + (12 + v))) = decide (0 ≤ σ.1 41 (16 * a + (12 + v))); rw [hf (12 + v) (by omega) a hb 41 (by decide)]
  have sc : ∀ v, v < 3 → vSc σ' v (I.1 (12 + v)) = vSc σ v (I.1 (12 + v)) := fun v hv => by
    cases hb : I.1 (12 + v) with
    | none => rfl
    | some a =>
      show (σ'.1 41 (16 * a + (12 + v)), if σ'.1 41 (16 * a + (12 + v)) = 6 then 0 else σ'.1 42 (16 * a + (12 + v))) = (σ.1 41 (16 * a + (12 + v)), if σ.1 41 (16 * a + (12 + v)) = 6 then 0 else σ.1 42 (16 * a + (12 + v)))
      rw [hf (12 + v) (by omega) a hb 41 (by decide), hf (12 + v) (by omega) a hb 42 (by decide)]
  have ba : ∀ v, v < 3 → vBa σ' (qiV I') v (I.1 (12 + v)) = vBa σ (qiV I) v (I.1 (12 + v)) := fun v hv => by
    cases hb : I.1 (12 + v) with
    | none => exact hin v hv
    | some a =>
      show (if σ'.1 37 (16 * a + (12 + v)) = 8 ∨ σ'.1 37 (16 * a + (12 + v)) = 9 then vIn (qiV I') v else if σ'.1 37 (16 * a + (12 + v)) ≤ 6 then (σ'.1 37 (16 * a + (12 + v)), if σ'.1 37 (16 * a + (12 + v)) = 6 then 0 else σ'.1 38 (16 * a + (12 + v))) else (-1, 0)) = (if σ.1 37 (16 * a + (12 + v)) = 8 ∨ σ.1 37 (16 * a + (12 + v)) = 9 then vIn (qiV I) v else if σ.1 37 (16 * a + (12 + v)) ≤ 6 then (σ.1 37 (16 * a + (12 + v)), if σ.1 37 (16 * a + (12 + v)) = 6 then 0 else σ.1 38 (16 * a + (12 + v))) else (-1, 0))
      rw [hf (12 + v) (by omega) a hb 37 (by decide), hf (12 + v) (by omega) a hb 38 (by decide), show vIn (qiV I') v = vIn (qiV I) v from hin v hv]
  have kn : ∀ v, v < 3 → vKn σ' (qiV I') v (I.1 (12 + v)) = vKn σ (qiV I) v (I.1 (12 + v)) := fun v hv => by
    unfold vKn
    rw [nd v hv, am v hv, se v hv, ba v hv]
  have k3 : vK3 σ' (qiV I') I'.1 = vK3 σ (qiV I) I.1 := by
    unfold vK3
    rw [h1 12 (by decide), h1 13 (by decide), h1 14 (by decide)]
    have k0 : vKn σ' (qiV I') 0 (I.1 12) = vKn σ (qiV I) 0 (I.1 12) := kn 0 (by decide)
    have k1 : vKn σ' (qiV I') 1 (I.1 13) = vKn σ (qiV I) 1 (I.1 13) := kn 1 (by decide)
    have k2 : vKn σ' (qiV I') 2 (I.1 14) = vKn σ (qiV I) 2 (I.1 14) := kn 2 (by decide)
    rw [k0, k1, k2]
  have hv : ∀ v, qVr σ' I' v = qVr σ I v := fun v => by
    unfold qVr qVar
    rw [k3]
    generalize sRf (vK3 σ (qiV I) I.1) v = s
    unfold vSy
    by_cases c : s < 3
    · rw [if_pos c, if_pos c, h1 (12 + s) (by omega), ba s c]
    · rw [if_neg c, if_neg c]
      by_cases d : s < 6
      · rw [if_pos d, if_pos d, h1 (12 + (s - 3)) (by omega), sc (s - 3) (by omega)]
      · rw [if_neg d, if_neg d]
  refine ⟨hv, ?_⟩
  have hv' : qVr σ' I' = qVr σ I := funext hv
  have un : ∀ p, p < 12 → vUn σ' (qVr σ' I') p (I'.1 p) = vUn σ (qVr σ I) p (I.1 p) := fun p hp => by
    rw [hv', h1 p (by omega)]
    cases hb : I.1 p with
    | none => rfl
    | some a =>
      unfold vUn
      dsimp only
      rw [hf p (by omega) a hb 37 (by decide), hf p (by omega) a hb 38 (by decide), hf p (by omega) a hb 40 (by decide), hf p (by omega) a hb 41 (by decide), hf p (by omega) a hb 42 (by decide)]
  have ev : ∀ q, q < 12 → ∀ a c w x, vEv (qiP I') a I'.2.2.1 c w q x = vEv (qiP I) a I.2.2.1 c w q x := by
    intro q hq a c w x
    rcases h2 with ⟨g1, g2⟩ | ⟨f, g, g1, g2, g3, -⟩
    · have e1 : qiP I' = none := by unfold qiP; rw [g1]; rfl
      have e2 : qiP I = none := by unfold qiP; rw [g2]; rfl
      rw [e1, e2]
      unfold vEv vTo
      rfl
    · have e1 : vPa (qiP I') q = vPa (qiP I) q := by unfold qiP; rw [g1, g2]; exact g3 q hq
      have e2 : vLe (qiP I') = vLe (qiP I) := by unfold qiP; rw [g1, g2]; exact g3 1 (by decide)
      have e3 : vSn (qiP I') w = vSn (qiP I) w := by unfold qiP; rw [g1, g2]; exact g3 2 (by decide)
      have e5 : I'.2.2.1 = I.2.2.1 := h3 (by rw [g2]; exact fun z => by cases z)
      have e4 : vTo (qiP I') q a I'.2.2.1 = vTo (qiP I) q a I.2.2.1 := by rw [e5]; unfold qiP; rw [g1, g2]; rfl
      unfold vEv
      rw [e1, e2, e3, e4]
  have hh : qHe σ' I' = qHe σ I := by unfold qHe; rw [h4, h50]
  have hs : qSz σ' I' = qSz σ I := by
    unfold qSz
    rw [un 1 (by decide), hh, h50, ev 1 (by decide)]
  intro p hp
  unfold qVl
  rw [un p hp, hh, h50, hs, ev p hp]
def rwE (G : qqG) (e a : Nat) : Prop := a < Gr G ∨ a = 40 + e
def fEq (G : qqG) (σ σ' : mS) (e : Nat) : Prop := ((∀ a, a < Gr G → σ'.1 20 (Gse G a) = σ.1 20 (Gse G a)) ∧ ∀ f, f ∈ [27, 29, 30, 34, 35] → σ'.1 f = σ.1 f) ∧ (∀ a, rwE G e a → ∀ p, p < 15 → ∀ f, f ∈ [37, 38, 39, 40, 41, 42] → σ'.1 f (16 * a + p) = σ.1 f (16 * a + p)) ∧ σ'.2 50 = σ.2 50
def apB (T : qqT) (G : qqG) (σ : mS) (e r : Nat) : Bool := bt (σ.1 74 r) e && Lst T G σ r
def lEq (T T' : qqT) (G : qqG) (σ σ' : mS) (e : Nat) : Prop := (∀ r, r < Gr G → apB T' G σ' e r = apB T G σ e r) ∧ (∀ r, r < Gr G → apB T G σ e r = true → Ldp T' G r = Ldp T G r) ∧ Ldp T' G (40 + e) = Ldp T G (40 + e)
theorem Lap_ap {r : Nat} : Lap T G σ o e r = (apB T G σ e r && Lfit σ o r) := by unfold Lap apB; rw [Bool.and_assoc]
theorem agS_o {im o1 o2 : Bool} {r1 r2 d1 d2 l1 l2 w1 w2 s1 s2 n1 n2 v1 v2 : Int32} (h : o1 = true ∨ o2 = true) : agS im r1 r2 d1 d2 o1 o2 l1 l2 w1 w2 s1 s2 n1 n2 = agS im r1 r2 d1 d2 o1 o2 l1 l2 v1 v2 s1 s2 n1 n2 := by
  unfold agS
  rw [if_pos h, if_pos h]
theorem Lag_cg (h40 : Gr G ≤ 40) (h1 : fEq G σ σ' e) {p a b : Nat} (hp : p < 15) (ha : rwE G e a) (hb : rwE G e b) (da : Ldp T' G a = Ldp T G a) (db : Ldp T' G b = Ldp T G b) : Lag T' G σ' p a b = Lag T G σ p a b := by
  have lim : ∀ a, rwE G e a → Lim σ' p a = Lim σ p a := fun a ha => by unfold Lim; rw [h1.2.1 a ha p hp 39 (by decide)]
  unfold Lag Lrk Lly Lor
  rw [lim a ha, lim b hb, da, db, h1.1.2 27 (by decide), h1.1.2 29 (by decide)]
  by_cases c : a < Gr G ∧ b < Gr G
  · rw [h1.1.1 a c.1, h1.1.1 b c.2]
  · have : decide (40 ≤ a) = true ∨ decide (40 ≤ b) = true := by
      unfold rwE at ha hb
      by_cases d : a < Gr G
      · have : ¬ b < Gr G := fun z => c ⟨d, z⟩
        exact Or.inr (decide_eq_true (by omega))
      · exact Or.inl (decide_eq_true (by omega))
    exact agS_o this
theorem Lwk_cg (h40 : Gr G ≤ 40) (h1 : fEq G σ σ' e) (h2 : lEq T T' G σ σ' e) {p : Nat} (hp : p < 15) (lim : Int32) : ∀ k, k ≤ Gr G → Lwk T' G σ' o e p lim k = Lwk T G σ o e p lim k ∧ ∀ a, Lwk T G σ o e p lim k = some a → (a < Gr G ∧ apB T G σ e a = true) ∨ a = 40 + e := by
  have dc : ∀ a, rwE G e a → Ldc σ' p a = Ldc σ p a := fun a ha => by unfold Ldc; rw [h1.2.1 a ha p hp 37 (by decide)]
  intro k
  induction k with
  | zero =>
    intro _
    refine ⟨?_, fun a ha => ?_⟩
    · show (if (Ldc σ' p (40 + e) && decide (2 < lim)) = true then some (40 + e) else none) = (if (Ldc σ p (40 + e) && decide (2 < lim)) = true then some (40 + e) else none)
      rw [dc _ (Or.inr rfl)]
    · have ha : (if (Ldc σ p (40 + e) && decide (2 < lim)) = true then some (40 + e) else none) = some a := ha
      by_cases c : (Ldc σ p (40 + e) && decide (2 < lim)) = true
      · rw [if_pos c] at ha; exact Or.inr (by cases ha; rfl)
      · rw [if_neg c] at ha; cases ha
  | succ k ih =>
    intro hk
    obtain ⟨i1, i2⟩ := ih (by omega)
    have wc : Lwc T' G σ' o e p lim k (Lwk T G σ o e p lim k) = Lwc T G σ o e p lim k (Lwk T G σ o e p lim k) := by
      unfold Lwc
      rw [dc k (Or.inl (by omega)), Lap_ap, Lap_ap, h2.1 k (by omega), show Lor G σ' k = Lor G σ k by unfold Lor; rw [h1.1.2 27 (by decide)], show Lfit σ' o k = Lfit σ o k by unfold Lfit; rw [h1.1.2 34 (by decide), h1.1.2 35 (by decide), h1.2.2]]
      cases hap : apB T G σ e k with
      | false => rw [Bool.false_and, Bool.false_and, Bool.false_and]
      | true =>
        cases hb : Lwk T G σ o e p lim k with
        | none => rfl
        | some b =>
          have := i2 b hb
          have eb : rwE G e b := this.imp (fun z => z.1) id
          have db : Ldp T' G b = Ldp T G b := this.elim (fun z => h2.2.1 b z.1 z.2) (fun z => by rw [z]; exact h2.2.2)
          show (_ && (_ && (_ && decide (0 < Lag T' G σ' p k b)))) = (_ && (_ && (_ && decide (0 < Lag T G σ p k b))))
          rw [Lag_cg h40 h1 hp (Or.inl (by omega)) eb (h2.2.1 k (by omega) hap) db]
    refine ⟨?_, fun a ha => ?_⟩
    · show (if Lwc T' G σ' o e p lim k (Lwk T' G σ' o e p lim k) = true then some k else Lwk T' G σ' o e p lim k) = (if Lwc T G σ o e p lim k (Lwk T G σ o e p lim k) = true then some k else Lwk T G σ o e p lim k)
      rw [i1, wc]
    · have ha : (if Lwc T G σ o e p lim k (Lwk T G σ o e p lim k) = true then some k else Lwk T G σ o e p lim k) = some a := ha
      by_cases c : Lwc T G σ o e p lim k (Lwk T G σ o e p lim k) = true
      · rw [if_pos c] at ha
        cases ha
        refine Or.inl ⟨by omega, ?_⟩
        unfold Lwc at c
        simp only [Bool.and_eq_true] at c
        have := c.2.2.1
        rw [Lap_ap, Bool.and_eq_true] at this
        exact this.1
      · rw [if_neg c] at ha; exact i2 a ha
theorem Lfnd_cgT (h40 : Gr G ≤ 40) (h1 : fEq G σ σ' e) (h2 : lEq T T' G σ σ' e) {p : Nat} (hp : p < 15) : Lfnd T' G σ' o e p = Lfnd T G σ o e p ∧ ∀ a, Lfnd T G σ o e p = some a → rwE G e a := by
  have win : ∀ lim, Lwin T' G σ' o e p lim = Lwin T G σ o e p lim ∧ ∀ a, Lwin T G σ o e p lim = some a → rwE G e a := fun lim => by
    obtain ⟨w1, w2⟩ := Lwk_cg (o := o) h40 h1 h2 hp lim (Gr G) (Nat.le_refl _)
    exact ⟨w1, fun a ha => (w2 a ha).imp (fun z => z.1) id⟩
  have key : ∀ k b, (∀ a, b = some a → rwE G e a) → LfF T' G σ' o e p k b = LfF T G σ o e p k b ∧ ∀ a, LfF T G σ o e p k b = some a → rwE G e a := by
    intro k
    induction k with
    | zero => intro b hb; exact ⟨rfl, hb⟩
    | succ k ih =>
      intro b hb
      cases b with
      | none => exact ⟨rfl, fun a ha => by cases ha⟩
      | some a =>
        have ea := hb a rfl
        have lor : Lor G σ' a = Lor G σ a := by unfold Lor; rw [h1.1.2 27 (by decide)]
        show (if σ'.1 37 (16 * a + p) = 10 then LfF T' G σ' o e p k (Lwin T' G σ' o e p (Lor G σ' a)) else some a) = (if σ.1 37 (16 * a + p) = 10 then LfF T G σ o e p k (Lwin T G σ o e p (Lor G σ a)) else some a) ∧ ∀ a', (if σ.1 37 (16 * a + p) = 10 then LfF T G σ o e p k (Lwin T G σ o e p (Lor G σ a)) else some a) = some a' → _
        rw [h1.2.1 a ea p hp 37 (by decide), lor, (win _).1]
        by_cases c : σ.1 37 (16 * a + p) = 10
        · rw [if_pos c, if_pos c]
          exact ih _ (win _).2
        · rw [if_neg c, if_neg c]
          exact ⟨rfl, hb⟩
  have := key 3 (Lwin T G σ o e p 3) (win 3).2
  refine ⟨?_, this.2⟩
  unfold Lfnd
  rw [(win 3).1]
  exact this.1
end QE
