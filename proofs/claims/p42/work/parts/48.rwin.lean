def Tho (T : qqT) (H : Nat → Bool) (e : Nat) : Option Nat := qqIt (fun _ => none) (fun e r => match Tsp T e with
  | some y => if H y = true then some y else r
  | none => none) (Tsp T) 30 e
def Hv (σ : mS) (ar x : Nat) : Bool := decide (0 < σ.1 43 (12 * (30 * ar + x) + 6))
def Lfit (σ : mS) (o : Option Int32) (r : Nat) : Bool :=
  if σ.1 34 r = 0 then decide (σ.1 35 r ≤ σ.2 50) else if σ.1 34 r = 1 then decide (σ.2 50 ≤ σ.1 35 r) else
  if σ.1 34 r = 2 then (match o with
    | none => false
    | some z => decide (σ.1 35 r ≤ z)) else if σ.1 34 r = 3 then (match o with
    | none => false
    | some z => decide (z ≤ σ.1 35 r)) else if σ.1 34 r = 4 then decide (0 ≤ σ.1 35 r ∧ σ.1 35 r ≤ 14) else true
def hsz (T : qqT) (σ : mS) (ar e : Nat) : Option Int32 := (Tho T (Hv σ ar) e).map (fun h => σ.1 46 (30 * ar + h))
def Lst (T : qqT) (G : qqG) (σ : mS) (r : Nat) : Bool := decide (σ.1 30 (Gsf G r) = 1) && (match Gsh G (Gsf G r) with
  | none => true
  | some h => TD T h)
def Lap (T : qqT) (G : qqG) (σ : mS) (o : Option Int32) (e r : Nat) : Bool := bt (σ.1 74 r) e && (Lst T G σ r && Lfit σ o r)
def Ldc (σ : mS) (p a : Nat) : Bool := decide (0 ≤ σ.1 37 (16 * a + p))
def Lwc (T : qqT) (G : qqG) (σ : mS) (o : Option Int32) (e p : Nat) (lim : Int32) (k : Nat) (b : Option Nat) : Bool := Ldc σ p k && (decide (Lor G σ k < lim) && (Lap T G σ o e k && (match b with
  | none => true
  | some b => decide (0 < Lag T G σ p k b))))
def Lwk (T : qqT) (G : qqG) (σ : mS) (o : Option Int32) (e p : Nat) (lim : Int32) : Nat → Option Nat
  | 0 => if (Ldc σ p (40 + e) && decide (2 < lim)) = true then some (40 + e) else none
  | k + 1 => if Lwc T G σ o e p lim k (Lwk T G σ o e p lim k) = true then some k else Lwk T G σ o e p lim k
def Lwin (T : qqT) (G : qqG) (σ : mS) (o : Option Int32) (e p : Nat) (lim : Int32) : Option Nat := Lwk T G σ o e p lim (Gr G)
def LfF (T : qqT) (G : qqG) (σ : mS) (o : Option Int32) (e p : Nat) : Nat → Option Nat → Option Nat
  | 0, b => b
  | _ + 1, none => none
  | k + 1, some a => if σ.1 37 (16 * a + p) = 10 then LfF T G σ o e p k (Lwin T G σ o e p (Lor G σ a)) else some a
def Lfnd (T : qqT) (G : qqG) (σ : mS) (o : Option Int32) (e p : Nat) : Option Nat := LfF T G σ o e p 3 (Lwin T G σ o e p 3)
def rwc (p : Nat) (b : Option Nat) : Int32 := match b with
  | none => -1
  | some a => nI (16 * a + p)
section RW
variable {T : qqT} {G : qqG} {σ : mS}
theorem Tho_eq (hw : Tw T) (H : Nat → Bool) {e : Nat} (he : e < Tn T) : Tho T H e = match Tsp T e with
    | none => none
    | some y => if H y = true then some y else Tho T H y := by
  have h1 := qqIt_eq (fin := fun _ => none) (f := fun e r => match Tsp T e with
    | some y => if H y = true then some y else r
    | none => none) (st := Tsp T) (μ := fun e => (TC T e).1) hw.n30 (fun e q _ hs => ⟨(Tsp_cases hw hs).2.1, Tsp_m hw hs⟩) he
  unfold Tho
  rw [h1]
  cases hs : Tsp T e <;> rfl
theorem Tho_lt (hw : Tw T) {H : Nat → Bool} {x : Nat} : ∀ e, e < Tn T → Tho T H e = some x → x < Tn T ∧ H x = true := by
  intro e
  refine qqInd (st := Tsp T) (μ := fun e => (TC T e).1) (P := fun e => e < Tn T → Tho T H e = some x → x < Tn T ∧ H x = true) ?_ e
  intro e ih he hx
  rw [Tho_eq hw H he] at hx
  cases hs : Tsp T e with
  | none => rw [hs] at hx; cases hx
  | some y =>
    rw [hs] at hx
    have hx : (if H y = true then some y else Tho T H y) = some x := hx
    have hy := (Tsp_cases hw hs).2.1
    by_cases hc : H y = true
    · rw [if_pos hc] at hx; cases hx; exact ⟨hy, hc⟩
    · rw [if_neg hc] at hx; exact ih y hs (Tsp_m hw hs) hy hx
theorem r_holder_7 (hw : Tw T) (hs : shpS T σ (Tn T)) {ar : Nat} (har : ar < 3) {ν : Nat → Nat} (hν : ∀ e y, e < Tn T → Tsp T e = some y → ν y < ν e) : ∀ m e, e < Tn T → ν e + 1 < m → f_holder_7 m (nI ar) (nI e) σ = some (qqO (if Hv σ ar e = true then some e else Tho T (Hv σ ar) e)) := by
  have h30 := hw.n30
  intro m
  induction m with
  | zero => intro e _ hm; omega
  | succ m ih =>
    intro e he hm
    rw [f_holder_7, if_neg (nI_pos (by omega)), show (30 : Int32) = nI 30 from rfl, show (12 : Int32) = nI 12 from rfl, show (6 : Int32) = nI 6 from rfl, pk_mul, nI_add, pk_mul, nI_add, rd_43 (by omega)]
    rw [qqx]
    by_cases hc : 0 < σ.1 43 (12 * (30 * ar + e) + 6)
    · rw [if_pos hc, if_pos (show Hv σ ar e = true from decide_eq_true hc)]
      rfl
    · rw [if_neg hc, if_neg (show ¬ Hv σ ar e = true from by unfold Hv; rw [decide_eq_false hc]; decide), rd_77 (by omega), hs e he, qqx, Tho_eq hw _ he]
      cases hy : Tsp T e with
      | some y =>
        have := hν e y he hy
        exact ih y (Tsp_cases hw hy).2.1 (by omega)
      | none =>
        obtain ⟨m, rfl⟩ : ∃ m', m = m' + 1 := ⟨m - 1, by omega⟩
        rw [f_holder_7, if_pos (show qqO none < 0 by decide)]
        rfl
theorem r_holder (hw : Tw T) (hs : shpS T σ (Tn T)) {ar : Nat} (har : ar < 3) {e : Nat} (he : e < Tn T) : f_holder (nI e) (nI ar) σ = some (qqO (Tho T (Hv σ ar) e)) := by
  have h30 := hw.n30
  obtain ⟨ν, h1, h2⟩ := Tsp_rk hw
  unfold f_holder
  rw [rd_77 (by omega), hs e he, qqx, Tho_eq hw _ he]
  cases hy : Tsp T e with
  | some y => exact r_holder_7 hw hs har h2 4000 y (Tsp_cases hw hy).2.1 (by have := h1 y (Tsp_cases hw hy).2.1; omega)
  | none =>
    rw [show (4000 : Nat) = 3999 + 1 from rfl, f_holder_7, if_pos (show qqO none < 0 by decide)]
    rfl
theorem rz_d (c : Prop) [Decidable c] : rz (if c then (1 : Int32) else 0) = some (b2 (decide c)) := by
  by_cases h : c
  · rw [if_pos h, decide_eq_true h]; rfl
  · rw [if_neg h, decide_eq_false h]; rfl
theorem r_in (x : Int32) (a b : Int32) : f_in x a b = some (b2 (decide (a ≤ x ∧ x ≤ b))) := by
  unfold f_in f_in_14 f_in_15
  by_cases h1 : x < a
  · rw [if_pos h1, decide_eq_false (fun z => absurd h1 (Int32.not_lt.mpr z.1))]; rfl
  · rw [if_neg h1]
    by_cases h2 : b < x
    · rw [if_pos h2, decide_eq_false (fun z => absurd h2 (Int32.not_lt.mpr z.2))]; rfl
    · rw [if_neg h2, decide_eq_true ⟨Int32.not_lt.mp h1, Int32.not_lt.mp h2⟩]; rfl
theorem r_fits_53 {r : Nat} (hr : r < 40) (tr : Bool) {h : Int32} {o : Option Int32} {z : Int32} (ho : o = if h < 0 then none else some z) : f_fits_53 (nI r) (b2 tr) h z σ = some (b2 (Lfit σ (if tr then none else o) r)) := by
  unfold f_fits_53 Lfit
  rw [rd_34 hr, rd_35 hr, qqx]
  by_cases c0 : σ.1 34 r = 0
  · rw [if_pos c0, if_pos c0, qqx]
    by_cases c : σ.2 50 < σ.1 35 r
    · rw [if_pos c, decide_eq_false (Int32.not_le.mpr c)]; rfl
    · rw [if_neg c, decide_eq_true (Int32.not_lt.mp c)]; rfl
  · rw [if_neg c0, if_neg c0]
    by_cases c1 : σ.1 34 r = 1
    · rw [if_pos c1, if_pos c1, qqx]
      by_cases c : σ.1 35 r < σ.2 50
      · rw [if_pos c, decide_eq_false (Int32.not_le.mpr c)]; rfl
      · rw [if_neg c, decide_eq_true (Int32.not_lt.mp c)]; rfl
    · rw [if_neg c1, if_neg c1]
      by_cases c2 : σ.1 34 r = 2
      · rw [if_pos c2, if_pos c2, b2_i0]
        cases tr with
        | true => rw [if_pos rfl, if_pos rfl]; rfl
        | false =>
          rw [if_neg (show ¬ (false = true) by decide), if_neg (show ¬ (false = true) by decide), ho]
          by_cases ch : h < 0
          · rw [if_pos ch, if_pos ch]; rfl
          · rw [if_neg ch, if_neg ch, qqx]
            by_cases c : z < σ.1 35 r
            · rw [if_pos c]
              show _ = some (b2 (decide (σ.1 35 r ≤ z)))
              rw [decide_eq_false (Int32.not_le.mpr c)]; rfl
            · rw [if_neg c]
              show _ = some (b2 (decide (σ.1 35 r ≤ z)))
              rw [decide_eq_true (Int32.not_lt.mp c)]; rfl
      · rw [if_neg c2, if_neg c2]
        by_cases c3 : σ.1 34 r = 3
        · rw [if_pos c3, if_pos c3, b2_i0]
          cases tr with
          | true => rw [if_pos rfl, if_pos rfl]; rfl
          | false =>
            rw [if_neg (show ¬ (false = true) by decide), if_neg (show ¬ (false = true) by decide), ho]
            by_cases ch : h < 0
            · rw [if_pos ch, if_pos ch]; rfl
            · rw [if_neg ch, if_neg ch, qqx]
              by_cases c : σ.1 35 r < z
              · rw [if_pos c]
                show _ = some (b2 (decide (z ≤ σ.1 35 r)))
                rw [decide_eq_false (Int32.not_le.mpr c)]; rfl
              · rw [if_neg c]
                show _ = some (b2 (decide (z ≤ σ.1 35 r)))
                rw [decide_eq_true (Int32.not_lt.mp c)]; rfl
        · rw [if_neg c3, if_neg c3]
          by_cases c4 : σ.1 34 r = 4
          · rw [if_pos c4, if_pos c4, qqx, r_in, qqx, b2_rz]
          · rw [if_neg c4, if_neg c4]; rfl
theorem r_fits (hw : Tw T) (hs : shpS T σ (Tn T)) {ar : Nat} (har : ar < 3) {e r : Nat} (he : e < Tn T) (hr : r < 40) (tr : Bool) : f_fits (nI r) (nI e) (nI ar) (b2 tr) σ = some (b2 (Lfit σ (if tr then none else hsz T σ ar e) r)) := by
  have h30 := hw.n30
  have h20 : f_fits_20 (nI r) (nI e) (nI ar) (b2 tr) σ = some (b2 (Lfit σ (if tr then none else hsz T σ ar e) r)) := by
    unfold f_fits_20
    rw [r_holder hw hs har he, qqx]
    unfold f_fits_30 hsz
    cases hq : Tho T (Hv σ ar) e with
    | none =>
      rw [if_neg (show ¬ 0 ≤ qqO none by decide)]
      exact r_fits_53 hr tr rfl
    | some h =>
      have hh := Tho_lt hw e he hq
      rw [if_pos (show 0 ≤ qqO (some h) from nI_pos' (by omega)), qqO_some, show (30 : Int32) = nI 30 from rfl, pk_mul, nI_add, rd_46 (by omega), qqx]
      exact r_fits_53 hr tr (by rw [if_neg (nI_pos (by omega))]; rfl)
  unfold f_fits
  rw [rd_34 hr, qqx]
  by_cases c2 : σ.1 34 r = 2
  · rw [if_pos c2]; exact h20
  · rw [if_neg c2, qqx]
    by_cases c3 : σ.1 34 r = 3
    · rw [if_pos c3]; exact h20
    · rw [if_neg c3]
      unfold f_fits_30
      rw [if_neg (by decide), r_fits_53 hr tr (o := none) rfl]
      have : ∀ o1 o2, Lfit σ o1 r = Lfit σ o2 r := by
        intro o1 o2
        unfold Lfit
        rw [if_neg c2, if_neg c3, if_neg c2, if_neg c3]
      rw [this (if tr = true then none else none) (if tr = true then none else hsz T σ ar e)]
theorem r_stands (hw : Tw T) (hr : RT T σ) (hc : RC T G σ) {r : Nat} (h : r < Gr G) : f_stands (nI r) σ = some (b2 (Lst T G σ r)) := by
  have h8 := hc.k8
  have hf := hc.f h
  unfold f_stands Lst
  rw [hf.1, qqx, rd_30 (by omega), qqx]
  by_cases c : σ.1 30 (Gsf G r) = 1
  · rw [if_pos c, qqx, hc.h hf.2, qqx, decide_eq_true c, Bool.true_and]
    cases hq : Gsh G (Gsf G r) with
    | none => rw [if_pos (show qqO none < 0 by decide)]; rfl
    | some x =>
      have hx := hc.hn hf.2 hq
      have := hw.n30
      rw [if_neg (show ¬ qqO (some x) < 0 from nI_pos (by omega)), qqx, hc.h hf.2, hq, qqx, qqO_some, r_inDoc hw hr hx.1, qqx, b2_i0]
      by_cases hd : TD T x = true
      · rw [if_pos hd]
        show _ = some (b2 (TD T x))
        rw [hd]; rfl
      · rw [if_neg hd]
        show _ = some (b2 (TD T x))
        rw [Bool.not_eq_true _ |>.mp hd]; rfl
  · rw [if_neg c, decide_eq_false c]; rfl
theorem RC.lor (hc : RC T G σ) {a : Nat} (h : VR T G a) : ∃ o, o < 3 ∧ Lor G σ a = nI o := by
  unfold Lor
  by_cases h40 : a < 40
  · rw [if_pos h40]
    exact hc.org (hc.f (show a < Gr G by unfold VR at h; omega)).2
  · rw [if_neg h40]; exact ⟨2, by decide, rfl⟩
theorem Lwk_is (hc : RC T G σ) {o : Option Int32} {e p : Nat} {lim : Int32} (he : e < Tn T) : ∀ k, k ≤ Gr G → ∀ a, Lwk T G σ o e p lim k = some a → VR T G a ∧ Lor G σ a < lim ∧ Ldc σ p a = true ∧ (a < k ∨ a = 40 + e) := by
  have h40 := hc.r40
  intro k
  induction k with
  | zero =>
    intro _ a ha
    unfold Lwk at ha
    by_cases h : (Ldc σ p (40 + e) && decide (2 < lim)) = true
    · rw [if_pos h] at ha
      cases ha
      simp only [Bool.and_eq_true, decide_eq_true_iff] at h
      refine ⟨Or.inr ⟨by omega, by omega⟩, ?_, h.1, Or.inr rfl⟩
      unfold Lor
      rw [if_neg (by omega)]
      exact h.2
    · rw [if_neg h] at ha; cases ha
  | succ k ih =>
    intro hk a ha
    unfold Lwk at ha
    by_cases h : Lwc T G σ o e p lim k (Lwk T G σ o e p lim k) = true
    · rw [if_pos h] at ha
      have ha := Option.some.inj ha
      subst ha
      unfold Lwc at h
      simp only [Bool.and_eq_true, decide_eq_true_iff] at h
      exact ⟨Or.inl (by omega), h.2.1, h.1, Or.inl (by omega)⟩
    · rw [if_neg h] at ha
      have := ih (by omega) a ha
      exact ⟨this.1, this.2.1, this.2.2.1, this.2.2.2.elim (fun z => Or.inl (by omega)) Or.inr⟩
theorem r_winner_40 (hw : Tw T) (hr : RT T σ) (hc : RC T G σ) (hs : shpS T σ (Tn T)) {ar e p : Nat} (har : ar < 3) (he : e < Tn T) (hp : p < 15) (tr : Bool) (lim : Int32) : ∀ d m k, k + d = Gr G → d < m → f_winner_40 m (nI e) (nI p) lim (nI ar) (b2 tr) (rwc p (Lwk T G σ (if tr then none else hsz T σ ar e) e p lim k)) (nI k) σ = some (rwc p (Lwin T G σ (if tr then none else hsz T σ ar e) e p lim)) := by
  have h30 := hw.n30
  have h40 := hc.r40
  generalize ho : (if tr then none else hsz T σ ar e) = o
  intro d
  induction d with
  | zero =>
    intro m k hk hm
    obtain ⟨m, rfl⟩ : ∃ m', m = m' + 1 := ⟨m - 1, by omega⟩
    have hk : k = Gr G := by omega
    subst hk
    rw [f_winner_40, hc.rn, if_pos (nI_le (Nat.le_refl _) (by omega))]
    rfl
  | succ d ih =>
    intro m k hk hm
    obtain ⟨m, rfl⟩ : ∃ m', m = m' + 1 := ⟨m - 1, by omega⟩
    have hkr : k < Gr G := by omega
    have hih := ih m (k + 1) (by omega) (by omega)
    rw [f_winner_40, hc.rn, if_neg (nI_ge hkr (by omega)), show (16 : Int32) = nI 16 from rfl, pk_mul, nI_add, rd_37 (by omega), qqx]
    have stay : (Lwk T G σ o e p lim (k + 1) = Lwk T G σ o e p lim k) → f_winner_149 (fun z0 z1 z2 z3 z4 z5 z6 => f_winner_40 m z0 z1 z2 z3 z4 z5 z6 σ) (nI e) (nI p) lim (nI ar) (b2 tr) (rwc p (Lwk T G σ o e p lim k)) (nI k) σ = some (rwc p (Lwin T G σ o e p lim)) := by
      intro hz
      unfold f_winner_149 f_winner_151
      rw [nI_1]
      rw [hz] at hih
      exact hih
    have take : (Lwk T G σ o e p lim (k + 1) = some k) → f_winner_144 (fun z0 z1 z2 z3 z4 z5 z6 => f_winner_40 m z0 z1 z2 z3 z4 z5 z6 σ) (nI e) (nI p) lim (nI ar) (b2 tr) (nI k) (nI (16 * k + p)) σ = some (rwc p (Lwin T G σ o e p lim)) := by
      intro hz
      unfold f_winner_144 f_winner_151
      rw [nI_1]
      rw [hz] at hih
      exact hih
    have no : ∀ c : Bool, c = false → (Ldc σ p k && (decide (Lor G σ k < lim) && Lap T G σ o e k)) = c → f_winner_120 (fun z0 z1 z2 z3 z4 z5 z6 => f_winner_40 m z0 z1 z2 z3 z4 z5 z6 σ) (nI e) (nI p) lim (nI ar) (b2 tr) (rwc p (Lwk T G σ o e p lim k)) (nI k) (nI (16 * k + p)) σ = some (rwc p (Lwin T G σ o e p lim)) := by
      intro c hcf hc2
      subst hcf
      unfold f_winner_120 f_winner_121
      rw [if_pos rfl]
      refine stay ?_
      show (if Lwc T G σ o e p lim k (Lwk T G σ o e p lim k) = true then some k else Lwk T G σ o e p lim k) = _
      rw [if_neg]
      intro z
      unfold Lwc at z
      simp only [Bool.and_eq_true] at z
      rw [z.1, z.2.1, z.2.2.1] at hc2
      exact absurd hc2 (by decide)
    by_cases c1 : σ.1 37 (16 * k + p) < 0
    · rw [if_pos c1]
      exact no false rfl (by unfold Ldc; rw [decide_eq_false (Int32.not_le.mpr c1)]; rfl)
    · have d1 : Ldc σ p k = true := decide_eq_true (Int32.not_lt.mp c1)
      rw [if_neg c1, r_originOf hw hc (Or.inl hkr) (by omega), qqx]
      by_cases c2 : lim ≤ Lor G σ k
      · rw [if_pos c2]
        exact no false rfl (by rw [decide_eq_false (Int32.not_lt.mpr c2)]; simp)
      · have d2 : decide (Lor G σ k < lim) = true := decide_eq_true (Int32.not_le.mp c2)
        rw [if_neg c2, rd_74 (by omega), qqx, r_bit _ (by omega), qqx, b2_i0]
        by_cases c3 : bt (σ.1 74 k) e = true
        · rw [if_pos c3, r_stands hw hr hc hkr, qqx, b2_i0]
          by_cases c4 : Lst T G σ k = true
          · rw [if_pos c4, r_fits hw hs har he (by omega) tr, ho, qqx, b2_i0]
            by_cases c5 : Lfit σ o k = true
            · have d3 : Lap T G σ o e k = true := by unfold Lap; rw [c3, c4, c5]; rfl
              rw [if_pos c5]
              unfold f_winner_121
              rw [if_neg (by decide)]
              cases hb : Lwk T G σ o e p lim k with
              | none =>
                rw [if_pos (show rwc p none < 0 from (by decide : (-1 : Int32) < 0))]
                refine take ?_
                show (if Lwc T G σ o e p lim k (Lwk T G σ o e p lim k) = true then some k else Lwk T G σ o e p lim k) = _
                rw [if_pos]
                unfold Lwc
                rw [d1, d2, d3, hb]
                rfl
              | some b =>
                have hbv := (Lwk_is hc he k (by omega) b hb).1
                have hb70 := hbv.lt hw hc
                rw [if_neg (show ¬ rwc p (some b) < 0 from nI_pos (by omega))]
                show ((f_against (nI (16 * k + p)) (nI (16 * b + p)) σ).bind _) = _
                rw [r_against hw hr hc (Or.inl hkr) hbv (by omega), qqx]
                by_cases c6 : Lag T G σ p k b ≤ 0
                · rw [if_pos c6]
                  rw [hb] at stay
                  refine stay ?_
                  show (if Lwc T G σ o e p lim k (Lwk T G σ o e p lim k) = true then some k else Lwk T G σ o e p lim k) = _
                  rw [if_neg]
                  · exact hb
                  · intro z
                    unfold Lwc at z
                    simp only [Bool.and_eq_true] at z
                    have z2 := z.2.2.2
                    rw [hb] at z2
                    have z2 : decide (0 < Lag T G σ p k b) = true := z2
                    rw [decide_eq_true_iff] at z2
                    exact Int32.not_lt.mpr c6 z2
                · rw [if_neg c6]
                  refine take ?_
                  show (if Lwc T G σ o e p lim k (Lwk T G σ o e p lim k) = true then some k else Lwk T G σ o e p lim k) = _
                  rw [if_pos]
                  unfold Lwc
                  rw [d1, d2, d3, hb]
                  show (true && (true && (true && decide (0 < Lag T G σ p k b)))) = true
                  rw [decide_eq_true (Int32.not_le.mp c6)]
                  rfl
            · rw [if_neg c5]
              exact no false rfl (by unfold Lap; rw [Bool.not_eq_true _ |>.mp c5]; simp)
          · rw [if_neg c4]
            exact no false rfl (by unfold Lap; rw [Bool.not_eq_true _ |>.mp c4]; simp)
        · rw [if_neg c3]
          exact no false rfl (by unfold Lap; rw [Bool.not_eq_true _ |>.mp c3]; simp)
theorem r_winner (hw : Tw T) (hr : RT T σ) (hc : RC T G σ) (hs : shpS T σ (Tn T)) {ar e p : Nat} (har : ar < 3) (he : e < Tn T) (hp : p < 15) (tr : Bool) (lim : Int32) : f_winner (nI e) (nI p) lim (nI ar) (b2 tr) σ = some (rwc p (Lwin T G σ (if tr then none else hsz T σ ar e) e p lim)) := by
  have h30 := hw.n30
  have key := r_winner_40 hw hr hc hs har he hp tr lim (Gr G) 4000 0 (by omega) (by have := hc.r40; omega)
  have e0 : Lwk T G σ (if tr then none else hsz T σ ar e) e p lim 0 = if (Ldc σ p (40 + e) && decide (2 < lim)) = true then some (40 + e) else none := rfl
  rw [e0, show nI 0 = (0 : Int32) from rfl] at key
  unfold f_winner
  rw [show (40 : Int32) = nI 40 from rfl, show (16 : Int32) = nI 16 from rfl, nI_add, pk_mul, nI_add, rd_37 (by omega), qqx]
  unfold f_winner_34 f_winner_35
  by_cases c1 : σ.1 37 (16 * (40 + e) + p) < 0
  · rw [if_pos c1]
    rw [if_neg (by unfold Ldc; rw [decide_eq_false (Int32.not_le.mpr c1)]; simp)] at key
    exact key
  · have d1 : Ldc σ p (40 + e) = true := decide_eq_true (Int32.not_lt.mp c1)
    rw [if_neg c1]
    by_cases c2 : lim ≤ 2
    · rw [if_pos c2]
      rw [if_neg (by rw [decide_eq_false (Int32.not_lt.mpr c2)]; simp)] at key
      exact key
    · rw [if_neg c2]
      rw [if_pos (by rw [d1, decide_eq_true (Int32.not_le.mp c2)]; rfl)] at key
      exact key
theorem Lwin_is (hc : RC T G σ) {o : Option Int32} {e p a : Nat} {lim : Int32} (he : e < Tn T) (h : Lwin T G σ o e p lim = some a) : VR T G a ∧ Lor G σ a < lim ∧ Ldc σ p a = true ∧ (a < Gr G ∨ a = 40 + e) := Lwk_is hc he (Gr G) (Nat.le_refl _) a h
theorem r_found_12 (hw : Tw T) (hr : RT T σ) (hc : RC T G σ) (hs : shpS T σ (Tn T)) {ar e p : Nat} (har : ar < 3) (he : e < Tn T) (hp : p < 15) (tr : Bool) : ∀ k m b, (∀ a, b = some a → VR T G a ∧ ∃ z, z < k ∧ Lor G σ a = nI z) → k < m → f_found_12 m (nI e) (nI p) (nI ar) (b2 tr) (rwc p b) σ = some (rwc p (LfF T G σ (if tr then none else hsz T σ ar e) e p k b)) := by
  generalize ho : (if tr then none else hsz T σ ar e) = o
  intro k
  induction k with
  | zero =>
    intro m b hb hm
    obtain ⟨m, rfl⟩ : ∃ m', m = m' + 1 := ⟨m - 1, by omega⟩
    cases b with
    | none => rw [f_found_12, if_pos (show rwc p none < 0 from (by decide : (-1 : Int32) < 0))]; rfl
    | some a => obtain ⟨_, z, hz, _⟩ := hb a rfl; omega
  | succ k ih =>
    intro m b hb hm
    obtain ⟨m, rfl⟩ : ∃ m', m = m' + 1 := ⟨m - 1, by omega⟩
    cases b with
    | none => rw [f_found_12, if_pos (show rwc p none < 0 from (by decide : (-1 : Int32) < 0))]; rfl
    | some a =>
      obtain ⟨hv, z, hz, hz2⟩ := hb a rfl
      have h70 := hv.lt hw hc
      rw [f_found_12, if_neg (show ¬ rwc p (some a) < 0 from nI_pos (by omega))]
      show ((rd σ 37 (nI (16 * a + p))).bind _) = _
      rw [rd_37 (by omega), qqx]
      unfold LfF
      by_cases c : σ.1 37 (16 * a + p) = 10
      · rw [if_pos c, if_pos c]
        show ((f_originOf (nI (16 * a + p)) σ).bind _) = _
        rw [r_originOf hw hc hv (by omega), qqx, r_winner hw hr hc hs har he hp tr, ho, qqx]
        refine ih m _ (fun a' ha' => ?_) (by omega)
        have h9 := Lwin_is hc he ha'
        obtain ⟨o', ho', ho2⟩ := hc.lor h9.1
        refine ⟨h9.1, o', ?_, ho2⟩
        have h10 := h9.2.1
        rw [ho2, hz2] at h10
        by_cases hzz : z < 3
        · have := (nI_ltI (by omega) (by omega)).mp h10
          omega
        · omega
      · rw [if_neg c, if_neg c]
        rfl
theorem r_found (hw : Tw T) (hr : RT T σ) (hc : RC T G σ) (hs : shpS T σ (Tn T)) {ar e p : Nat} (har : ar < 3) (he : e < Tn T) (hp : p < 15) (tr : Bool) : f_found (nI e) (nI p) (nI ar) (b2 tr) σ = some (rwc p (Lfnd T G σ (if tr then none else hsz T σ ar e) e p)) := by
  unfold f_found
  rw [r_winner hw hr hc hs har he hp tr, qqx]
  refine r_found_12 hw hr hc hs har he hp tr 3 4000 _ (fun a ha => ?_) (by decide)
  have h9 := Lwin_is hc he ha
  exact ⟨h9.1, hc.lor h9.1⟩
end RW
