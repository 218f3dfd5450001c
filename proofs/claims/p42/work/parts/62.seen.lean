def fFst (c : Nat → Bool) : Nat → Option Nat
  | 0 => none
  | k + 1 => if c k = true then some k else fFst c k
def fNx (c : Nat → Bool) : Nat → Nat → Option Nat
  | 0, _ => none
  | j + 1, t => if c t = true then some t else fNx c j (t + 1)
theorem fNx_snoc (c : Nat → Bool) : ∀ j t, fNx c (j + 1) t = match fNx c j t with
    | some x => some x
    | none => if c (t + j) = true then some (t + j) else none := by
  intro j
  induction j with
  | zero => intro t; rfl
  | succ j ih =>
    intro t
    show (if c t = true then some t else fNx c (j + 1) (t + 1)) = _
    by_cases h : c t = true
    · have e1 : fNx c (j + 1) t = some t := if_pos h
      rw [if_pos h, e1]
    · have e1 : fNx c (j + 1) t = fNx c j (t + 1) := if_neg h
      rw [if_neg h, e1, ih (t + 1), show t + 1 + j = t + (j + 1) by omega]
theorem fFst_is {c : Nat → Bool} : ∀ {k t : Nat}, fFst c k = some t → t < k ∧ c t = true := by
  intro k
  induction k with
  | zero => intro t h; cases h
  | succ k ih =>
    intro t h
    unfold fFst at h
    by_cases hc : c k = true
    · rw [if_pos hc] at h; cases h; exact ⟨Nat.lt_succ_self _, hc⟩
    · rw [if_neg hc] at h
      have := ih h
      exact ⟨by omega, this.2⟩
theorem fNx_is {c : Nat → Bool} : ∀ {j t x : Nat}, fNx c j t = some x → t ≤ x ∧ x < t + j ∧ c x = true := by
  intro j
  induction j with
  | zero => intro t x h; cases h
  | succ j ih =>
    intro t x h
    unfold fNx at h
    by_cases hc : c t = true
    · rw [if_pos hc] at h; cases h; exact ⟨Nat.le_refl _, by omega, hc⟩
    · rw [if_neg hc] at h
      have := ih h
      exact ⟨by omega, by omega, this.2.2⟩
def frP (d : Nat) (o : Option Nat) : Nat := match o with
  | none => d
  | some t => t
def frV (fn : Nat → Int32) (base : Int32) (o : Option Nat) : Int32 := match o with
  | none => base
  | some t => fn t
def frL (n g : Nat) (st en : Nat) (a b : Int32) : Int32 := if st = en then a else a + ((b - a).toInt64 * (nI (10 * g) - nI (st * n)).toInt64 / (nI ((en - st) * n)).toInt64).toInt32
def aSt (σ : mS) (a p t : Nat) : Bool := decide (σ.1 63 (55 * a + 11 * p + t) = 1)
def aFn (σ : mS) (a p t : Nat) : Int32 := σ.1 64 (55 * a + 11 * p + t)
def aLn (σ : mS) (a : Nat) : Nat := (σ.1 60 a).toNatClampNeg
def aGg (σ : mS) (a gn : Nat) : Nat := if σ.1 62 a = 1 ∧ gn / aLn σ a % 2 = 1 then aLn σ a - gn % aLn σ a else gn % aLn σ a
def aFs (σ : mS) (a p g : Nat) : Option Nat := fFst (fun t => aSt σ a p t && decide (t * aLn σ a ≤ 10 * g)) 11
def aNx (σ : mS) (a p g : Nat) : Option Nat := fNx (fun t => aSt σ a p t && decide (10 * g < t * aLn σ a)) 11 0
def qFr (σ : mS) (a p g : Nat) (base : Int32) : Int32 := frL (aLn σ a) g (frP 0 (aFs σ a p g)) (frP 10 (aNx σ a p g)) (frV (aFn σ a p) base (aFs σ a p g)) (frV (aFn σ a p) base (aNx σ a p g))
def aAny (σ : mS) (a p : Nat) : Bool := (fFst (aSt σ a p) 11).isSome
def qPl (σ : mS) (e p : Nat) : Bool := decide (0 ≤ σ.1 43 (12 * e + 11) ∧ σ.1 43 (12 * e + 11) ≤ 3) && (aAny σ (σ.1 43 (12 * e + 11)).toNatClampNeg p && (decide (0 ≤ σ.1 59 e) && decide (σ.2 54 - σ.1 59 e < σ.1 60 (σ.1 43 (12 * e + 11)).toNatClampNeg * σ.1 61 (σ.1 43 (12 * e + 11)).toNatClampNeg)))
def qMv (σ : mS) (e p : Nat) : Bool := decide (0 ≤ σ.1 55 (5 * e + p)) && decide (σ.2 54 - σ.1 55 (5 * e + p) < σ.1 56 (5 * e + p))
def qBs (σ : mS) (e p : Nat) : Int32 := if σ.1 43 (12 * e + p) = -1000000 then 0 else σ.1 43 (12 * e + p)
def qSeen (σ : mS) (e p : Nat) : Int32 := if qMv σ e p = true then σ.1 57 (5 * e + p) + ((σ.1 58 (5 * e + p) - σ.1 57 (5 * e + p)).toInt64 * (σ.2 54 - σ.1 55 (5 * e + p)).toInt64 / (σ.1 56 (5 * e + p)).toInt64).toInt32 else
  if (qPl σ e p && decide (σ.1 47 (5 * e + p) = 0)) = true then qFr σ (σ.1 43 (12 * e + 11)).toNatClampNeg p (aGg σ (σ.1 43 (12 * e + 11)).toNatClampNeg (σ.2 54 - σ.1 59 e).toNatClampNeg) (qBs σ e p) else σ.1 43 (12 * e + p)
def bV (x : Int32) : Prop := -1000000 ≤ x.toInt ∧ x.toInt ≤ 1000000
def RAn (σ : mS) : Prop := (∀ a, a < 4 → (∃ n, 1 ≤ n ∧ n ≤ 1000 ∧ σ.1 60 a = nI n) ∧ (∃ r, 1 ≤ r ∧ r ≤ 100 ∧ σ.1 61 a = nI r) ∧ ∃ b, σ.1 62 a = b2 b) ∧ ∀ i, i < 220 → (∃ b, σ.1 63 i = b2 b) ∧ (σ.1 63 i = 1 → sm (σ.1 64 i))
def RNw (σ : mS) : Prop := ∃ nw, nw ≤ 600000 ∧ σ.2 54 = nI nw ∧ (∀ e, e < 30 → σ.1 59 e = -1 ∨ ∃ k, k ≤ nw ∧ σ.1 59 e = nI k) ∧ ∀ i, i < 150 → σ.1 55 i = -1 ∨ ∃ k, k ≤ nw ∧ σ.1 55 i = nI k ∧ ∃ m, 1 ≤ m ∧ m ≤ 1000000 ∧ σ.1 56 i = nI m
theorem l_i32 (x : Int32) (y : Int64) : (x.toInt64 + y).toInt32 = x + y.toInt32 := by
  rw [Int64.toInt32_add, Int32.toInt32_toInt64]
theorem ldv_n {a b : Int64} (h : b ≠ 0) : ldv a b = some (a / b) := if_neg h
theorem l_n0 {n : Nat} (h1 : 1 ≤ n) (h : n < 2 ^ 31) : (nI n).toInt64 ≠ 0 := by
  rw [nI_l h]
  intro z
  have := congrArg Int64.toInt z
  rw [lN_toInt (by omega)] at this
  have h2 : (0 : Int64).toInt = 0 := by decide
  omega
section SN
variable {σ : mS}
theorem r_moves (hn : RNw σ) {e p : Nat} (he : e < 30) (hp : p < 5) : f_moves (nI e) (nI p) σ = some (b2 (qMv σ e p)) := by
  obtain ⟨nw, h1, h2, h3, h4⟩ := hn
  unfold f_moves qMv f_moves_45 f_moves_46
  rw [show (5 : Int32) = nI 5 from rfl, pk_mul, nI_add, rd_55 (by omega), qqx, rd_56 (by omega), h2]
  by_cases c : σ.1 55 (5 * e + p) < 0
  · rw [if_pos c, decide_eq_false (Int32.not_le.mpr c)]; rfl
  · rw [if_neg c, decide_eq_true (Int32.not_lt.mp c), qqx, qqx, Bool.true_and]
    by_cases d : σ.1 56 (5 * e + p) ≤ nI nw - σ.1 55 (5 * e + p)
    · rw [if_pos d, decide_eq_false (Int32.not_lt.mpr d)]; rfl
    · rw [if_neg d, decide_eq_true (Int32.not_le.mp d)]; rfl
theorem fFst_any {c : Nat → Bool} : ∀ k, (fFst c (k + 1)).isSome = (c k || (fFst c k).isSome) := by
  intro k
  show (if c k = true then some k else fFst c k).isSome = _
  by_cases h : c k = true
  · rw [if_pos h, h]; rfl
  · rw [if_neg h, Bool.not_eq_true _ |>.mp h, Bool.false_or]
theorem or_b2 (x y : Bool) : b2 x ||| b2 y = b2 (y || x) := by cases x <;> cases y <;> decide
theorem r_plays_19 (ha : RAn σ) {e p a : Nat} (he : e < 30) (hp : p < 5) (ha4 : a < 4) : ∀ n m t, t + n = 11 → n < m → f_plays_19 m (nI e) (nI p) (nI a) (b2 (fFst (aSt σ a p) t).isSome) (nI t) σ = f_plays_73 (nI e) (nI a) (b2 (aAny σ a p)) σ := by
  intro n
  induction n with
  | zero =>
    intro m t ht hm
    obtain ⟨m, rfl⟩ : ∃ m', m = m' + 1 := ⟨m - 1, by omega⟩
    have ht : t = 11 := by omega
    subst ht
    rw [f_plays_19, if_pos (by decide)]
    rfl
  | succ n ih =>
    intro m t ht hm
    obtain ⟨m, rfl⟩ : ∃ m', m = m' + 1 := ⟨m - 1, by omega⟩
    have h3 : decide ((0 : Int32) ≤ nI a ∧ nI a ≤ 3) = true := decide_eq_true ⟨nI_pos' (by omega), nI_le (b := 3) (by omega) (by decide)⟩
    rw [f_plays_19, if_neg (ge11 (by omega)), r_in, h3, qqx, if_neg (show ¬ b2 true = 0 by decide), show (55 : Int32) = nI 55 from rfl, show (11 : Int32) = nI 11 from rfl, pk_mul, pk_mul, nI_add, nI_add, rd_63 (by omega), qqx]
    unfold f_plays_64
    have := ih m (t + 1) (by omega) (by omega)
    rw [fFst_any] at this
    rw [nI_1]
    by_cases c : σ.1 63 (55 * a + 11 * p + t) = 1
    · have h9 : aSt σ a p t = true := decide_eq_true c
      rw [if_pos c, show (1 : Int32) = b2 true from rfl, or_b2]
      rw [h9] at this
      exact this
    · have h9 : aSt σ a p t = false := decide_eq_false c
      rw [if_neg c, show (0 : Int32) = b2 false from rfl, or_b2]
      rw [h9] at this
      exact this
theorem r_plays (ha : RAn σ) (hn : RNw σ) {e p : Nat} (he : e < 30) (hp : p < 5) : f_plays (nI e) (nI p) σ = some (b2 (qPl σ e p)) := by
  obtain ⟨nw, h1, h2, h3, h4⟩ := hn
  unfold f_plays qPl
  rw [show (12 : Int32) = nI 12 from rfl, show (11 : Int32) = nI 11 from rfl, pk_mul, nI_add, rd_43 (by omega), qqx]
  have e73 : ∀ (x a : Int32) (any : Bool), (any = true → ∃ k, k < 4 ∧ a = nI k) → f_plays_73 (nI e) a (b2 any) σ = some (b2 (any && (decide (0 ≤ σ.1 59 e) && decide (σ.2 54 - σ.1 59 e < σ.1 60 a.toNatClampNeg * σ.1 61 a.toNatClampNeg)))) := by
    intro x a any hany
    unfold f_plays_73 f_plays_118 f_plays_119
    rw [b2_i0]
    cases any with
    | false => rw [if_neg (by decide)]; rfl
    | true =>
      obtain ⟨k, hk, rfl⟩ := hany rfl
      rw [if_pos rfl, rd_59 he, qqx, nI_clamp (by omega), Bool.true_and]
      by_cases c : σ.1 59 e < 0
      · rw [if_pos c, decide_eq_false (Int32.not_le.mpr c)]; rfl
      · rw [if_neg c, decide_eq_true (Int32.not_lt.mp c), qqx, rd_60 hk, qqx, rd_61 hk, qqx, Bool.true_and]
        by_cases d : σ.1 60 k * σ.1 61 k ≤ σ.2 54 - σ.1 59 e
        · rw [if_pos d, decide_eq_false (Int32.not_lt.mpr d)]; rfl
        · rw [if_neg d, decide_eq_true (Int32.not_le.mp d)]; rfl
  by_cases c : 0 ≤ σ.1 43 (12 * e + 11) ∧ σ.1 43 (12 * e + 11) ≤ 3
  · obtain ⟨k, hk, hk2⟩ := nI_of2 (x := σ.1 43 (12 * e + 11)) (M := 3) (n := 3) (by decide) (Int32.not_lt.mpr c.1) c.2
    rw [decide_eq_true c, Bool.true_and]
    rw [hk2, nI_clamp (by omega)]
    have := r_plays_19 ha he hp (show k < 4 by omega) 11 4000 0 rfl (by decide)
    rw [show (0 : Int32) = nI 0 from rfl]
    have e1 : f_plays_19 4000 (nI e) (nI p) (nI k) (nI 0) (nI 0) σ = f_plays_73 (nI e) (nI k) (b2 (aAny σ k p)) σ := this
    rw [e1, e73 0 (nI k) _ (fun _ => ⟨k, by omega, rfl⟩), nI_clamp (by omega)]
    rfl
  · rw [decide_eq_false c, Bool.false_and, show (4000 : Nat) = 3999 + 1 from rfl, f_plays_19, if_neg (show ¬ (11 : Int32) ≤ 0 by decide), r_in, decide_eq_false c, qqx, if_pos (show b2 false = 0 from rfl), show (0 : Int32) = b2 false from rfl, e73 0 _ false (fun z => by cases z), Bool.false_and]
end SN
