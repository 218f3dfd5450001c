/-! MATHS, 122: the constructors over lists -/
abbrev lC : Type := Nat × Nat × List (Nat × Int32) × List (Nat × Option Nat)
def l9I : List (Nat × Int32) → Nat → Int32
  | [], _ => 0
  | (k, v) :: r, j => if j = k then v else l9I r j
def l9R : List (Nat × Option Nat) → Nat → Option Nat
  | [], _ => none
  | (k, v) :: r, j => if j = k then v else l9R r j
def dC (c : lC) : cE := (c.1, c.2.1, l9I c.2.2.1, l9R c.2.2.2)
def dH (L : List lC) : cS := (fun a => (L[a]?).map dC, L.length)
def l9na (L : List lC) (t N : Nat) : List lC := L ++ [(t, N, [], [])]
def l9nw (L : List lC) (t : Nat) : List lC := L ++ [(t, 0, [], [])]
def l9ro (b : Nat) : Nat → List (Nat × Option Nat)
  | 0 => []
  | n + 1 => (n, some (b + n)) :: l9ro b n
def l9mna (L : List lC) (N M : Nat) : List lC := L ++ ((50, N, [], l9ro (L.length + 1) N) :: List.replicate N (20, M, [], []))
def l9gc (L : List lC) (r : Option Nat) (tag : Nat) : Option (Nat × lC) := r.bind fun a => (L[a]?).bind fun c => if c.1 = tag then some (a, c) else none
def l9rc (L : List lC) (r : Option Nat) (ci : Nat) : Option Nat := (l9gc L r ci).bind fun q => some q.1
def l9gR (L : List lC) (r : Option Nat) (ci k : Nat) : Option (Option Nat) := (l9gc L r ci).bind fun q => some (l9R q.2.2.2.2 k)
def l9gI (L : List lC) (r : Option Nat) (ci k : Nat) : Option Int32 := (l9gc L r ci).bind fun q => some (l9I q.2.2.2.1 k)
def l9pI (L : List lC) (r : Option Nat) (ci k : Nat) (v : Int32) : Option (List lC) := (l9gc L r ci).bind fun q => if q.1 = 0 then none else some (L.set q.1 (q.2.1, q.2.2.1, (k, v) :: q.2.2.2.1, q.2.2.2.2))
def l9pR (L : List lC) (r : Option Nat) (ci k : Nat) (v : Option Nat) : Option (List lC) := (l9gc L r ci).bind fun q => if q.1 = 0 then none else some (L.set q.1 (q.2.1, q.2.2.1, q.2.2.2.1, (k, v) :: q.2.2.2.2))
def l9okR (L : List lC) (v : Option Nat) (ci : Nat) : Bool := match v with
  | none => true
  | some a => (l9gc L (some a) ci).isSome
def l9sR (L : List lC) (r : Option Nat) (ci : Nat) (i : Int32) (v : Option Nat) : Option (List lC) := (l9gc L r (30 + ci)).bind fun q => if q.1 = 0 ∨ i < 0 ∨ q.2.2.1 ≤ i.toNatClampNeg ∨ l9okR L v ci = false then none else some (L.set q.1 (q.2.1, q.2.2.1, q.2.2.2.1, (i.toNatClampNeg, v) :: q.2.2.2.2))
section LST
variable {L : List lC}
theorem d_2 : (dH L).2 = L.length := rfl
theorem d_app (c : lC) : dH (L ++ [c]) = (fun b => if b = L.length then some (dC c) else (dH L).1 b, L.length + 1) := by
  refine Prod.ext (funext fun b => ?_) (by show (L ++ [c]).length = _; simp)
  show ((L ++ [c])[b]?).map dC = if b = L.length then some (dC c) else (L[b]?).map dC
  by_cases h : b < L.length
  · rw [List.getElem?_append_left h, if_neg (by omega)]
  · rw [List.getElem?_append_right (by omega)]
    by_cases h2 : b = L.length
    · rw [if_pos h2, h2, Nat.sub_self]; rfl
    · rw [if_neg h2, List.getElem?_eq_none (show L.length ≤ b by omega), List.getElem?_eq_none (by simp; omega)]
theorem l9z : l9I [] = (fun _ => 0) ∧ l9R [] = (fun _ => none) := ⟨funext fun _ => rfl, funext fun _ => rfl⟩
theorem d_na (L : List lC) (t N : Nat) : na (dH L) t N = dH (l9na L t N) := by
  unfold l9na
  rw [d_app]
  unfold na dC
  rw [l9z.1, l9z.2]; rfl
theorem d_nw (L : List lC) (t : Nat) : nw (dH L) t = dH (l9nw L t) := d_na L t 0
theorem l9ro_k (b : Nat) : ∀ N j, l9R (l9ro b N) j = if j < N then some (b + j) else none := by
  intro N
  induction N with
  | zero => intro j; rfl
  | succ N ih =>
    intro j
    show (if j = N then some (b + N) else l9R (l9ro b N) j) = _
    rw [ih]
    by_cases c : j = N
    · rw [if_pos c, if_pos (by omega), c]
    · rw [if_neg c]
      by_cases d : j < N
      · rw [if_pos d, if_pos (by omega)]
      · rw [if_neg d, if_neg (by omega)]
theorem d_mna (L : List lC) (N M : Nat) : mna (dH L) N M = dH (l9mna L N M) := by
  refine Prod.ext (funext fun b => ?_) (by show L.length + 1 + N = (l9mna L N M).length; unfold l9mna; simp; omega)
  show (if b = L.length then some (50, N, fun _ => 0, fun j => if j < N then some (L.length + 1 + j) else none) else if L.length < b ∧ b < L.length + 1 + N then some (20, M, fun _ => 0, fun _ => none) else (L[b]?).map dC) = ((l9mna L N M)[b]?).map dC
  unfold l9mna
  by_cases h : b < L.length
  · rw [List.getElem?_append_left h, if_neg (by omega), if_neg (by omega)]
  · rw [List.getElem?_append_right (by omega)]
    by_cases h2 : b = L.length
    · rw [if_pos h2, h2, Nat.sub_self]
      show _ = some (dC (50, N, [], l9ro (L.length + 1) N))
      unfold dC
      rw [l9z.1]
      exact congrArg some (Prod.ext rfl (Prod.ext rfl (Prod.ext rfl (funext fun j => (l9ro_k _ _ _).symm))))
    · rw [if_neg h2]
      obtain ⟨d, hd⟩ : ∃ d, b - L.length = d + 1 := ⟨b - L.length - 1, by omega⟩
      rw [hd, List.getElem?_cons_succ]
      by_cases h3 : d < N
      · rw [if_pos (by omega), List.getElem?_replicate_of_lt h3]
        show _ = some (dC (20, M, [], []))
        unfold dC
        rw [l9z.1, l9z.2]
      · rw [if_neg (by omega), List.getElem?_eq_none (show L.length ≤ b by omega), List.getElem?_eq_none (by simp; omega)]
theorem d_gc (L : List lC) (r : Option Nat) (tag : Nat) : gc (dH L) r tag = (l9gc L r tag).map (fun q => (q.1, dC q.2)) := by
  unfold gc l9gc
  cases r with
  | none => rfl
  | some a =>
    show (((L[a]?).map dC).bind _) = (((L[a]?).bind _).map _)
    cases L[a]? with
    | none => rfl
    | some c =>
      show (if c.1 = tag then some (a, dC c) else none) = Option.map _ (if c.1 = tag then some (a, c) else none)
      by_cases h : c.1 = tag
      · rw [if_pos h, if_pos h]; rfl
      · rw [if_neg h, if_neg h]; rfl
theorem l9gc_at {r : Option Nat} {tag : Nat} {q : Nat × lC} (h : l9gc L r tag = some q) : L[q.1]? = some q.2 := by
  unfold l9gc at h
  cases r with
  | none => cases h
  | some a =>
    have h : (L[a]?).bind (fun c => if c.1 = tag then some (a, c) else none) = some q := h
    cases hc : L[a]? with
    | none => rw [hc] at h; cases h
    | some c =>
      rw [hc] at h
      have h : (if c.1 = tag then some (a, c) else none) = some q := h
      by_cases z : c.1 = tag
      · rw [if_pos z] at h; cases h; exact hc
      · rw [if_neg z] at h; cases h
theorem d_set {a : Nat} {c0 : lC} (h : L[a]? = some c0) (c : lC) : setC (dH L) a (dC c) = dH (L.set a c) := by
  have hl := (List.getElem?_eq_some_iff.mp h).1
  refine Prod.ext (funext fun b => ?_) (by show L.length = (L.set a c).length; simp)
  show (if b = a then some (dC c) else (L[b]?).map dC) = ((L.set a c)[b]?).map dC
  rw [List.getElem?_set]
  by_cases z : b = a
  · rw [if_pos z, if_pos z.symm, if_pos hl]; rfl
  · rw [if_neg z, if_neg (fun y => z y.symm)]
theorem l9I_c (k : Nat) (v : Int32) (l : List (Nat × Int32)) : l9I ((k, v) :: l) = upd (l9I l) k v := funext fun _ => rfl
theorem l9R_c (k : Nat) (v : Option Nat) (l : List (Nat × Option Nat)) : l9R ((k, v) :: l) = updR (l9R l) k v := funext fun _ => rfl
theorem d_rc (L : List lC) (r : Option Nat) (ci : Nat) : rc (dH L) r ci = l9rc L r ci := by
  unfold rc l9rc
  rw [d_gc]
  cases l9gc L r ci <;> rfl
theorem d_gR (L : List lC) (r : Option Nat) (ci k : Nat) : gR (dH L) r ci k = l9gR L r ci k := by
  unfold gR l9gR
  rw [d_gc]
  cases l9gc L r ci <;> rfl
theorem d_gI (L : List lC) (r : Option Nat) (ci k : Nat) : gI (dH L) r ci k = l9gI L r ci k := by
  unfold gI l9gI
  rw [d_gc]
  cases l9gc L r ci <;> rfl
theorem d_pI (L : List lC) (r : Option Nat) (ci k : Nat) (v : Int32) : pI (dH L) r ci k v = (l9pI L r ci k v).map dH := by
  unfold pI l9pI
  rw [d_gc]
  cases h : l9gc L r ci with
  | none => rfl
  | some q =>
    show (if q.1 = 0 then none else some (setC (dH L) q.1 (q.2.1, q.2.2.1, upd (l9I q.2.2.2.1) k v, l9R q.2.2.2.2))) = Option.map dH (if q.1 = 0 then none else some (L.set q.1 (q.2.1, q.2.2.1, (k, v) :: q.2.2.2.1, q.2.2.2.2)))
    by_cases z : q.1 = 0
    · rw [if_pos z, if_pos z]; rfl
    · rw [if_neg z, if_neg z, ← l9I_c]
      exact congrArg some (d_set (l9gc_at h) (q.2.1, q.2.2.1, (k, v) :: q.2.2.2.1, q.2.2.2.2))
theorem d_pR (L : List lC) (r : Option Nat) (ci k : Nat) (v : Option Nat) : pR (dH L) r ci k v = (l9pR L r ci k v).map dH := by
  unfold pR l9pR
  rw [d_gc]
  cases h : l9gc L r ci with
  | none => rfl
  | some q =>
    show (if q.1 = 0 then none else some (setC (dH L) q.1 (q.2.1, q.2.2.1, l9I q.2.2.2.1, updR (l9R q.2.2.2.2) k v))) = Option.map dH (if q.1 = 0 then none else some (L.set q.1 (q.2.1, q.2.2.1, q.2.2.2.1, (k, v) :: q.2.2.2.2)))
    by_cases z : q.1 = 0
    · rw [if_pos z, if_pos z]; rfl
    · rw [if_neg z, if_neg z, ← l9R_c]
      exact congrArg some (d_set (l9gc_at h) (q.2.1, q.2.2.1, q.2.2.2.1, (k, v) :: q.2.2.2.2))
theorem d_okR (L : List lC) (v : Option Nat) (ci : Nat) : okR (dH L) v ci = l9okR L v ci := by
  unfold okR l9okR
  cases v with
  | none => rfl
  | some a =>
    show (gc (dH L) (some a) ci).isSome = (l9gc L (some a) ci).isSome
    rw [d_gc]
    cases l9gc L (some a) ci <;> rfl
theorem d_sR (L : List lC) (r : Option Nat) (ci : Nat) (i : Int32) (v : Option Nat) : sR (dH L) r ci i v = (l9sR L r ci i v).map dH := by
  unfold sR l9sR
  rw [d_gc, d_okR]
  cases h : l9gc L r (30 + ci) with
  | none => rfl
  | some q =>
    show (if q.1 = 0 ∨ i < 0 ∨ q.2.2.1 ≤ i.toNatClampNeg ∨ l9okR L v ci = false then none else some (setC (dH L) q.1 (q.2.1, q.2.2.1, l9I q.2.2.2.1, updR (l9R q.2.2.2.2) i.toNatClampNeg v))) = Option.map dH (if q.1 = 0 ∨ i < 0 ∨ q.2.2.1 ≤ i.toNatClampNeg ∨ l9okR L v ci = false then none else some (L.set q.1 (q.2.1, q.2.2.1, q.2.2.2.1, (i.toNatClampNeg, v) :: q.2.2.2.2)))
    by_cases z : q.1 = 0 ∨ i < 0 ∨ q.2.2.1 ≤ i.toNatClampNeg ∨ l9okR L v ci = false
    · rw [if_pos z, if_pos z]; rfl
    · rw [if_neg z, if_neg z, ← l9R_c]
      exact congrArg some (d_set (l9gc_at h) (q.2.1, q.2.2.1, q.2.2.2.1, (i.toNatClampNeg, v) :: q.2.2.2.2))
theorem d_pRn (L : List lC) (t N : Nat) (r : Option Nat) (ci k : Nat) (v : Option Nat) : pR (na (dH L) t N) r ci k v = (l9pR (l9na L t N) r ci k v).map dH := by rw [d_na]; exact d_pR _ _ _ _ _
theorem d_pRm (L : List lC) (t N : Nat) (r : Option Nat) (ci k : Nat) (v : Option Nat) : pR (mna (dH L) t N) r ci k v = (l9pR (l9mna L t N) r ci k v).map dH := by rw [d_mna]; exact d_pR _ _ _ _ _
theorem d_rcw (L : List lC) (t : Nat) (r : Option Nat) (ci : Nat) : rc (nw (dH L) t) r ci = l9rc (l9nw L t) r ci := by rw [d_nw]; exact d_rc _ _ _
theorem stS {A : Option cS} {a : Option (List lC)} {F : cS → Option cS} {G : List lC → Option (List lC)} (h : A = a.map dH) (k : ∀ L, F (dH L) = (G L).map dH) : A.bind F = (a.bind G).map dH := by
  rw [h]
  cases a with
  | none => rfl
  | some L => exact k L
theorem stN {β : Type} {A a : Option β} {F : β → Option cS} {G : β → Option (List lC)} (h : A = a) (k : ∀ x, F x = (G x).map dH) : A.bind F = (a.bind G).map dH := by
  rw [h]
  cases a with
  | none => rfl
  | some x => exact k x
end LST
def l_X6_init_69  (x0 : Nat) (y0 : Option Nat) (y1 : Int32) (σ : List lC) : Option (List lC) := (l9pI σ y0 6 3 y1).bind (fun v1 => some v1)
def l_X6_init (x0 : Nat) (x1 : Int32) (x2 : Option Nat) (x3 : Option Nat) (σ : List lC) : Option (List lC) := (l9pI σ (some x0) 6 4 ((-1):Int32)).bind (fun v1 => (l9pR (l9na v1 20 15) (some x0) 6 8 (some v1.length)).bind (fun v2 => (l9pR (l9na v2 20 15) (some x0) 6 9 (some v2.length)).bind (fun v3 => (l9pR (l9na v3 20 15) (some x0) 6 10 (some v3.length)).bind (fun v4 => (l9pR (l9na v4 20 15) (some x0) 6 11 (some v4.length)).bind (fun v5 => (l9pI v5 (some x0) 6 0 x1).bind (fun v6 => (l9pR v6 (some x0) 6 1 x2).bind (fun v7 => (l9pR v7 (some x0) 6 2 x3).bind (fun v8 => if x2 = none then (l_X6_init_69 x0 ((some x0)) ((2:Int32)) v8) else ((l9gI v8 x2 8 1).bind (fun v9 => l_X6_init_69 x0 ((some x0)) (v9) v8))))))))))
def l_X9_init (x0 : Nat)  (σ : List lC) : Option (List lC) := (l9pR (l9na σ 20 15) (some x0) 9 0 (some σ.length)).bind (fun v1 => (l9pR (l9na v1 20 5) (some x0) 9 5 (some v1.length)).bind (fun v2 => (l9pR (l9na v2 20 5) (some x0) 9 6 (some v2.length)).bind (fun v3 => (l9pR (l9na v3 20 5) (some x0) 9 7 (some v3.length)).bind (fun v4 => some v4))))
def l_X3_init (x0 : Nat) (x1 : Int32) (x2 : Int32) (σ : List lC) : Option (List lC) := (l9pI σ (some x0) 3 4 ((-1):Int32)).bind (fun v1 => (l9pI v1 (some x0) 3 5 ((-1):Int32)).bind (fun v2 => (l9pI v2 (some x0) 3 6 ((-1):Int32)).bind (fun v3 => (l9pI v3 (some x0) 3 14 (1:Int32)).bind (fun v4 => (l9rc (l9nw v4 6) (some v4.length) 6).bind (fun v5 => (l_X6_init v5 (((-1):Int32)) (none) (none) (l9nw v4 6)).bind (fun v6 => (l9pR v6 (some x0) 3 18 (some v4.length)).bind (fun v7 => (l9rc (l9nw v7 9) (some v7.length) 9).bind (fun v8 => (l_X9_init v8  (l9nw v7 9)).bind (fun v9 => (l9pR v9 (some x0) 3 19 (some v7.length)).bind (fun v10 => (l9pI v10 (some x0) 3 0 x1).bind (fun v11 => (l9pI v11 (some x0) 3 1 x2).bind (fun v12 => some v12))))))))))))
def l_X10_init (x0 : Nat)  (σ : List lC) : Option (List lC) := (l9rc (l9nw σ 3) (some σ.length) 3).bind (fun v1 => (l_X3_init v1 ((0:Int32)) ((0:Int32)) (l9nw σ 3)).bind (fun v2 => (l9pR v2 (some x0) 10 0 (some σ.length)).bind (fun v3 => (l9pI v3 (some x0) 10 1 (1:Int32)).bind (fun v4 => (l9pI v4 (some x0) 10 2 (1:Int32)).bind (fun v5 => (l9pR (l9na v5 33 30) (some x0) 10 4 (some v5.length)).bind (fun v6 => (l9gR v6 (some x0) 10 4).bind (fun v7 => (l9gR v6 (some x0) 10 0).bind (fun v8 => (l9sR v6 v7 3 (0:Int32) v8).bind (fun v9 => some v9)))))))))
def l_X2_init (x0 : Nat) (x1 : Int32) (σ : List lC) : Option (List lC) := (l9pR (l9na σ 20 4) (some x0) 2 1 (some σ.length)).bind (fun v1 => (l9pR (l9na v1 20 4) (some x0) 2 2 (some v1.length)).bind (fun v2 => (l9pR (l9na v2 20 4) (some x0) 2 3 (some v2.length)).bind (fun v3 => (l9pI v3 (some x0) 2 0 x1).bind (fun v4 => some v4))))
def l_X7_init (x0 : Nat)  (σ : List lC) : Option (List lC) := (l9rc (l9nw σ 2) (some σ.length) 2).bind (fun v1 => (l_X2_init v1 ((0:Int32)) (l9nw σ 2)).bind (fun v2 => (l9pR v2 (some x0) 7 0 (some σ.length)).bind (fun v3 => (l9gR v3 (some x0) 7 0).bind (fun v4 => (l9pR v3 (some x0) 7 1 v4).bind (fun v5 => (l9pI v5 (some x0) 7 2 (1:Int32)).bind (fun v6 => (l9pI v6 (some x0) 7 3 ((-1):Int32)).bind (fun v7 => (l9pI v7 (some x0) 7 4 ((-1):Int32)).bind (fun v8 => some v8))))))))
def l_X5_init (x0 : Nat) (x1 : Option Nat) (σ : List lC) : Option (List lC) := (l9pR (l9na σ 37 30) (some x0) 5 1 (some σ.length)).bind (fun v1 => (l9rc (l9nw v1 7) (some v1.length) 7).bind (fun v2 => (l_X7_init v2  (l9nw v1 7)).bind (fun v3 => (l9pR v3 (some x0) 5 3 (some v1.length)).bind (fun v4 => (l9pR (l9mna v4 31 30) (some x0) 5 4 (some v4.length)).bind (fun v5 => (l9pR (l9na v5 20 31) (some x0) 5 5 (some v5.length)).bind (fun v6 => (l9pR (l9na v6 20 31) (some x0) 5 6 (some v6.length)).bind (fun v7 => (l9pR v7 (some x0) 5 0 x1).bind (fun v8 => some v8))))))))
def l_X1_init (x0 : Nat) (x1 : Option Nat) (x2 : Option Nat) (σ : List lC) : Option (List lC) := (l9pR (l9na σ 38 8) (some x0) 1 2 (some σ.length)).bind (fun v1 => (l9pR (l9na v1 36 40) (some x0) 1 3 (some v1.length)).bind (fun v2 => (l9pI v2 (some x0) 1 8 (1000:Int32)).bind (fun v3 => (l9pR (l9na v3 36 15) (some x0) 1 13 (some v3.length)).bind (fun v4 => (l9pR v4 (some x0) 1 0 x1).bind (fun v5 => (l9pR v5 (some x0) 1 1 x2).bind (fun v6 => some v6))))))
def l_X0_init (x0 : Nat)  (σ : List lC) : Option (List lC) := (l9pI σ (some x0) 0 0 (10:Int32)).bind (fun v1 => (l9pI v1 (some x0) 0 1 (1:Int32)).bind (fun v2 => (l9pR (l9mna v2 5 11) (some x0) 0 3 (some v2.length)).bind (fun v3 => (l9pR (l9na v3 20 5) (some x0) 0 4 (some v3.length)).bind (fun v4 => some v4))))
def l_X11_init (x0 : Nat)  (σ : List lC) : Option (List lC) := (l9pR (l9na σ 30 4) (some x0) 11 3 (some σ.length)).bind (fun v1 => (l9pR (l9na v1 34 6) (some x0) 11 4 (some v1.length)).bind (fun v2 => (l9pR (l9na v2 39 30) (some x0) 11 7 (some v2.length)).bind (fun v3 => (l9rc (l9nw v3 9) (some v3.length) 9).bind (fun v4 => (l_X9_init v4  (l9nw v3 9)).bind (fun v5 => (l9pR v5 (some x0) 11 8 (some v3.length)).bind (fun v6 => (l9rc (l9nw v6 9) (some v6.length) 9).bind (fun v7 => (l_X9_init v7  (l9nw v6 9)).bind (fun v8 => (l9pR v8 (some x0) 11 9 (some v6.length)).bind (fun v9 => (l9rc (l9nw v9 10) (some v9.length) 10).bind (fun v10 => (l_X10_init v10  (l9nw v9 10)).bind (fun v11 => (l9rc (l9nw v11 5) (some v11.length) 5).bind (fun v12 => (l_X5_init v12 ((some v9.length)) (l9nw v11 5)).bind (fun v13 => (l9rc (l9nw v13 1) (some v13.length) 1).bind (fun v14 => (l_X1_init v14 ((some v9.length)) ((some v11.length)) (l9nw v13 1)).bind (fun v15 => (l9pR v15 (some x0) 11 0 (some v9.length)).bind (fun v16 => (l9pR v16 (some x0) 11 1 (some v11.length)).bind (fun v17 => (l9pR v17 (some x0) 11 2 (some v13.length)).bind (fun v18 => (l9gR v18 (some x0) 11 3).bind (fun v19 => (l9rc (l9nw v18 0) (some v18.length) 0).bind (fun v20 => (l_X0_init v20  (l9nw v18 0)).bind (fun v21 => (l9sR v21 v19 0 (0:Int32) (some v18.length)).bind (fun v22 => (l9gR v22 (some x0) 11 3).bind (fun v23 => (l9rc (l9nw v22 0) (some v22.length) 0).bind (fun v24 => (l_X0_init v24  (l9nw v22 0)).bind (fun v25 => (l9sR v25 v23 0 (1:Int32) (some v22.length)).bind (fun v26 => (l9gR v26 (some x0) 11 3).bind (fun v27 => (l9rc (l9nw v26 0) (some v26.length) 0).bind (fun v28 => (l_X0_init v28  (l9nw v26 0)).bind (fun v29 => (l9sR v29 v27 0 (2:Int32) (some v26.length)).bind (fun v30 => (l9gR v30 (some x0) 11 3).bind (fun v31 => (l9rc (l9nw v30 0) (some v30.length) 0).bind (fun v32 => (l_X0_init v32  (l9nw v30 0)).bind (fun v33 => (l9sR v33 v31 0 (3:Int32) (some v30.length)).bind (fun v34 => (l9gR v34 (some x0) 11 7).bind (fun v35 => (l9rc (l9nw v34 9) (some v34.length) 9).bind (fun v36 => (l_X9_init v36  (l9nw v34 9)).bind (fun v37 => (l9sR v37 v35 9 (0:Int32) (some v34.length)).bind (fun v38 => (l9gR v38 (some x0) 11 7).bind (fun v39 => (l9rc (l9nw v38 9) (some v38.length) 9).bind (fun v40 => (l_X9_init v40  (l9nw v38 9)).bind (fun v41 => (l9sR v41 v39 9 (1:Int32) (some v38.length)).bind (fun v42 => (l9gR v42 (some x0) 11 7).bind (fun v43 => (l9rc (l9nw v42 9) (some v42.length) 9).bind (fun v44 => (l_X9_init v44  (l9nw v42 9)).bind (fun v45 => (l9sR v45 v43 9 (2:Int32) (some v42.length)).bind (fun v46 => (l9gR v46 (some x0) 11 7).bind (fun v47 => (l9rc (l9nw v46 9) (some v46.length) 9).bind (fun v48 => (l_X9_init v48  (l9nw v46 9)).bind (fun v49 => (l9sR v49 v47 9 (3:Int32) (some v46.length)).bind (fun v50 => (l9gR v50 (some x0) 11 7).bind (fun v51 => (l9rc (l9nw v50 9) (some v50.length) 9).bind (fun v52 => (l_X9_init v52  (l9nw v50 9)).bind (fun v53 => (l9sR v53 v51 9 (4:Int32) (some v50.length)).bind (fun v54 => (l9gR v54 (some x0) 11 7).bind (fun v55 => (l9rc (l9nw v54 9) (some v54.length) 9).bind (fun v56 => (l_X9_init v56  (l9nw v54 9)).bind (fun v57 => (l9sR v57 v55 9 (5:Int32) (some v54.length)).bind (fun v58 => (l9gR v58 (some x0) 11 7).bind (fun v59 => (l9rc (l9nw v58 9) (some v58.length) 9).bind (fun v60 => (l_X9_init v60  (l9nw v58 9)).bind (fun v61 => (l9sR v61 v59 9 (6:Int32) (some v58.length)).bind (fun v62 => (l9gR v62 (some x0) 11 7).bind (fun v63 => (l9rc (l9nw v62 9) (some v62.length) 9).bind (fun v64 => (l_X9_init v64  (l9nw v62 9)).bind (fun v65 => (l9sR v65 v63 9 (7:Int32) (some v62.length)).bind (fun v66 => (l9gR v66 (some x0) 11 7).bind (fun v67 => (l9rc (l9nw v66 9) (some v66.length) 9).bind (fun v68 => (l_X9_init v68  (l9nw v66 9)).bind (fun v69 => (l9sR v69 v67 9 (8:Int32) (some v66.length)).bind (fun v70 => (l9gR v70 (some x0) 11 7).bind (fun v71 => (l9rc (l9nw v70 9) (some v70.length) 9).bind (fun v72 => (l_X9_init v72  (l9nw v70 9)).bind (fun v73 => (l9sR v73 v71 9 (9:Int32) (some v70.length)).bind (fun v74 => (l9gR v74 (some x0) 11 7).bind (fun v75 => (l9rc (l9nw v74 9) (some v74.length) 9).bind (fun v76 => (l_X9_init v76  (l9nw v74 9)).bind (fun v77 => (l9sR v77 v75 9 (10:Int32) (some v74.length)).bind (fun v78 => (l9gR v78 (some x0) 11 7).bind (fun v79 => (l9rc (l9nw v78 9) (some v78.length) 9).bind (fun v80 => (l_X9_init v80  (l9nw v78 9)).bind (fun v81 => (l9sR v81 v79 9 (11:Int32) (some v78.length)).bind (fun v82 => (l9gR v82 (some x0) 11 7).bind (fun v83 => (l9rc (l9nw v82 9) (some v82.length) 9).bind (fun v84 => (l_X9_init v84  (l9nw v82 9)).bind (fun v85 => (l9sR v85 v83 9 (12:Int32) (some v82.length)).bind (fun v86 => (l9gR v86 (some x0) 11 7).bind (fun v87 => (l9rc (l9nw v86 9) (some v86.length) 9).bind (fun v88 => (l_X9_init v88  (l9nw v86 9)).bind (fun v89 => (l9sR v89 v87 9 (13:Int32) (some v86.length)).bind (fun v90 => (l9gR v90 (some x0) 11 7).bind (fun v91 => (l9rc (l9nw v90 9) (some v90.length) 9).bind (fun v92 => (l_X9_init v92  (l9nw v90 9)).bind (fun v93 => (l9sR v93 v91 9 (14:Int32) (some v90.length)).bind (fun v94 => (l9gR v94 (some x0) 11 7).bind (fun v95 => (l9rc (l9nw v94 9) (some v94.length) 9).bind (fun v96 => (l_X9_init v96  (l9nw v94 9)).bind (fun v97 => (l9sR v97 v95 9 (15:Int32) (some v94.length)).bind (fun v98 => (l9gR v98 (some x0) 11 7).bind (fun v99 => (l9rc (l9nw v98 9) (some v98.length) 9).bind (fun v100 => (l_X9_init v100  (l9nw v98 9)).bind (fun v101 => (l9sR v101 v99 9 (16:Int32) (some v98.length)).bind (fun v102 => (l9gR v102 (some x0) 11 7).bind (fun v103 => (l9rc (l9nw v102 9) (some v102.length) 9).bind (fun v104 => (l_X9_init v104  (l9nw v102 9)).bind (fun v105 => (l9sR v105 v103 9 (17:Int32) (some v102.length)).bind (fun v106 => (l9gR v106 (some x0) 11 7).bind (fun v107 => (l9rc (l9nw v106 9) (some v106.length) 9).bind (fun v108 => (l_X9_init v108  (l9nw v106 9)).bind (fun v109 => (l9sR v109 v107 9 (18:Int32) (some v106.length)).bind (fun v110 => (l9gR v110 (some x0) 11 7).bind (fun v111 => (l9rc (l9nw v110 9) (some v110.length) 9).bind (fun v112 => (l_X9_init v112  (l9nw v110 9)).bind (fun v113 => (l9sR v113 v111 9 (19:Int32) (some v110.length)).bind (fun v114 => (l9gR v114 (some x0) 11 7).bind (fun v115 => (l9rc (l9nw v114 9) (some v114.length) 9).bind (fun v116 => (l_X9_init v116  (l9nw v114 9)).bind (fun v117 => (l9sR v117 v115 9 (20:Int32) (some v114.length)).bind (fun v118 => (l9gR v118 (some x0) 11 7).bind (fun v119 => (l9rc (l9nw v118 9) (some v118.length) 9).bind (fun v120 => (l_X9_init v120  (l9nw v118 9)).bind (fun v121 => (l9sR v121 v119 9 (21:Int32) (some v118.length)).bind (fun v122 => (l9gR v122 (some x0) 11 7).bind (fun v123 => (l9rc (l9nw v122 9) (some v122.length) 9).bind (fun v124 => (l_X9_init v124  (l9nw v122 9)).bind (fun v125 => (l9sR v125 v123 9 (22:Int32) (some v122.length)).bind (fun v126 => (l9gR v126 (some x0) 11 7).bind (fun v127 => (l9rc (l9nw v126 9) (some v126.length) 9).bind (fun v128 => (l_X9_init v128  (l9nw v126 9)).bind (fun v129 => (l9sR v129 v127 9 (23:Int32) (some v126.length)).bind (fun v130 => (l9gR v130 (some x0) 11 7).bind (fun v131 => (l9rc (l9nw v130 9) (some v130.length) 9).bind (fun v132 => (l_X9_init v132  (l9nw v130 9)).bind (fun v133 => (l9sR v133 v131 9 (24:Int32) (some v130.length)).bind (fun v134 => (l9gR v134 (some x0) 11 7).bind (fun v135 => (l9rc (l9nw v134 9) (some v134.length) 9).bind (fun v136 => (l_X9_init v136  (l9nw v134 9)).bind (fun v137 => (l9sR v137 v135 9 (25:Int32) (some v134.length)).bind (fun v138 => (l9gR v138 (some x0) 11 7).bind (fun v139 => (l9rc (l9nw v138 9) (some v138.length) 9).bind (fun v140 => (l_X9_init v140  (l9nw v138 9)).bind (fun v141 => (l9sR v141 v139 9 (26:Int32) (some v138.length)).bind (fun v142 => (l9gR v142 (some x0) 11 7).bind (fun v143 => (l9rc (l9nw v142 9) (some v142.length) 9).bind (fun v144 => (l_X9_init v144  (l9nw v142 9)).bind (fun v145 => (l9sR v145 v143 9 (27:Int32) (some v142.length)).bind (fun v146 => (l9gR v146 (some x0) 11 7).bind (fun v147 => (l9rc (l9nw v146 9) (some v146.length) 9).bind (fun v148 => (l_X9_init v148  (l9nw v146 9)).bind (fun v149 => (l9sR v149 v147 9 (28:Int32) (some v146.length)).bind (fun v150 => (l9gR v150 (some x0) 11 7).bind (fun v151 => (l9rc (l9nw v150 9) (some v150.length) 9).bind (fun v152 => (l_X9_init v152  (l9nw v150 9)).bind (fun v153 => (l9sR v153 v151 9 (29:Int32) (some v150.length)).bind (fun v154 => some v154))))))))))))))))))))))))))))))))))))))))))))))))))))))))))))))))))))))))))))))))))))))))))))))))))))))))))))))))))))))))))))))))))))))))))))))))))))))))))
theorem d_X6_69 (x0 : Nat) (y0 : Option Nat) (y1 : Int32) (L : List lC) : f_X6_init_69 x0 y0 y1 (dH L) = (l_X6_init_69 x0 y0 y1 L).map dH := by
  unfold f_X6_init_69 l_X6_init_69
  repeat' first
    | exact rfl
    | refine stS (d_pR _ _ _ _ _) (fun _ => ?_)
    | refine stS (d_pRn _ _ _ _ _ _ _) (fun _ => ?_)
    | refine stS (d_pRm _ _ _ _ _ _ _) (fun _ => ?_)
    | refine stS (d_pI _ _ _ _ _) (fun _ => ?_)
    | refine stS (d_sR _ _ _ _ _) (fun _ => ?_)
    | refine stN (d_rcw _ _ _ _) (fun _ => ?_)
    | refine stN (d_gR _ _ _ _) (fun _ => ?_)
    | refine stN (d_gI _ _ _ _) (fun _ => ?_)
    | split
theorem d_X6 (x0 : Nat) (x1 : Int32) (x2 : Option Nat) (x3 : Option Nat) (L : List lC) : f_X6_init x0 x1 x2 x3 (dH L) = (l_X6_init x0 x1 x2 x3 L).map dH := by
  unfold f_X6_init l_X6_init
  repeat' first
    | exact rfl
    | refine stS (d_pR _ _ _ _ _) (fun _ => ?_)
    | refine stS (d_pRn _ _ _ _ _ _ _) (fun _ => ?_)
    | refine stS (d_pRm _ _ _ _ _ _ _) (fun _ => ?_)
    | refine stS (d_pI _ _ _ _ _) (fun _ => ?_)
    | refine stS (d_sR _ _ _ _ _) (fun _ => ?_)
    | refine stN (d_rcw _ _ _ _) (fun _ => ?_)
    | refine stN (d_gR _ _ _ _) (fun _ => ?_)
    | refine stN (d_gI _ _ _ _) (fun _ => ?_)
    | refine stS (d_X6_69 _ _ _ _) (fun _ => ?_)
    | exact d_X6_69 _ _ _ _
    | split
theorem d_X6w (x0 : Nat) (x1 : Int32) (x2 : Option Nat) (x3 : Option Nat) (L : List lC) : f_X6_init x0 x1 x2 x3 (nw (dH L) 6) = (l_X6_init x0 x1 x2 x3 (l9nw L 6)).map dH := by rw [d_nw]; exact d_X6 x0 x1 x2 x3 _
theorem d_X9 (x0 : Nat) (L : List lC) : f_X9_init x0 (dH L) = (l_X9_init x0 L).map dH := by
  unfold f_X9_init l_X9_init
  repeat' first
    | exact rfl
    | refine stS (d_pR _ _ _ _ _) (fun _ => ?_)
    | refine stS (d_pRn _ _ _ _ _ _ _) (fun _ => ?_)
    | refine stS (d_pRm _ _ _ _ _ _ _) (fun _ => ?_)
    | refine stS (d_pI _ _ _ _ _) (fun _ => ?_)
    | refine stS (d_sR _ _ _ _ _) (fun _ => ?_)
    | refine stN (d_rcw _ _ _ _) (fun _ => ?_)
    | refine stN (d_gR _ _ _ _) (fun _ => ?_)
    | refine stN (d_gI _ _ _ _) (fun _ => ?_)
    | split
theorem d_X9w (x0 : Nat) (L : List lC) : f_X9_init x0 (nw (dH L) 9) = (l_X9_init x0 (l9nw L 9)).map dH := by rw [d_nw]; exact d_X9 x0 _
theorem d_X3 (x0 : Nat) (x1 : Int32) (x2 : Int32) (L : List lC) : f_X3_init x0 x1 x2 (dH L) = (l_X3_init x0 x1 x2 L).map dH := by
  unfold f_X3_init l_X3_init
  repeat' first
    | exact rfl
    | refine stS (d_pR _ _ _ _ _) (fun _ => ?_)
    | refine stS (d_pRn _ _ _ _ _ _ _) (fun _ => ?_)
    | refine stS (d_pRm _ _ _ _ _ _ _) (fun _ => ?_)
    | refine stS (d_pI _ _ _ _ _) (fun _ => ?_)
    | refine stS (d_sR _ _ _ _ _) (fun _ => ?_)
    | refine stN (d_rcw _ _ _ _) (fun _ => ?_)
    | refine stN (d_gR _ _ _ _) (fun _ => ?_)
    | refine stN (d_gI _ _ _ _) (fun _ => ?_)
    | refine stS (d_X6w _ _ _ _ _) (fun _ => ?_)
    | refine stS (d_X9w _ _) (fun _ => ?_)
    | split
theorem d_X3w (x0 : Nat) (x1 : Int32) (x2 : Int32) (L : List lC) : f_X3_init x0 x1 x2 (nw (dH L) 3) = (l_X3_init x0 x1 x2 (l9nw L 3)).map dH := by rw [d_nw]; exact d_X3 x0 x1 x2 _
theorem d_X10 (x0 : Nat) (L : List lC) : f_X10_init x0 (dH L) = (l_X10_init x0 L).map dH := by
  unfold f_X10_init l_X10_init
  repeat' first
    | exact rfl
    | refine stS (d_pR _ _ _ _ _) (fun _ => ?_)
    | refine stS (d_pRn _ _ _ _ _ _ _) (fun _ => ?_)
    | refine stS (d_pRm _ _ _ _ _ _ _) (fun _ => ?_)
    | refine stS (d_pI _ _ _ _ _) (fun _ => ?_)
    | refine stS (d_sR _ _ _ _ _) (fun _ => ?_)
    | refine stN (d_rcw _ _ _ _) (fun _ => ?_)
    | refine stN (d_gR _ _ _ _) (fun _ => ?_)
    | refine stN (d_gI _ _ _ _) (fun _ => ?_)
    | refine stS (d_X3w _ _ _ _) (fun _ => ?_)
    | split
theorem d_X10w (x0 : Nat) (L : List lC) : f_X10_init x0 (nw (dH L) 10) = (l_X10_init x0 (l9nw L 10)).map dH := by rw [d_nw]; exact d_X10 x0 _
theorem d_X2 (x0 : Nat) (x1 : Int32) (L : List lC) : f_X2_init x0 x1 (dH L) = (l_X2_init x0 x1 L).map dH := by
  unfold f_X2_init l_X2_init
  repeat' first
    | exact rfl
    | refine stS (d_pR _ _ _ _ _) (fun _ => ?_)
    | refine stS (d_pRn _ _ _ _ _ _ _) (fun _ => ?_)
    | refine stS (d_pRm _ _ _ _ _ _ _) (fun _ => ?_)
    | refine stS (d_pI _ _ _ _ _) (fun _ => ?_)
    | refine stS (d_sR _ _ _ _ _) (fun _ => ?_)
    | refine stN (d_rcw _ _ _ _) (fun _ => ?_)
    | refine stN (d_gR _ _ _ _) (fun _ => ?_)
    | refine stN (d_gI _ _ _ _) (fun _ => ?_)
    | split
theorem d_X2w (x0 : Nat) (x1 : Int32) (L : List lC) : f_X2_init x0 x1 (nw (dH L) 2) = (l_X2_init x0 x1 (l9nw L 2)).map dH := by rw [d_nw]; exact d_X2 x0 x1 _
theorem d_X7 (x0 : Nat) (L : List lC) : f_X7_init x0 (dH L) = (l_X7_init x0 L).map dH := by
  unfold f_X7_init l_X7_init
  repeat' first
    | exact rfl
    | refine stS (d_pR _ _ _ _ _) (fun _ => ?_)
    | refine stS (d_pRn _ _ _ _ _ _ _) (fun _ => ?_)
    | refine stS (d_pRm _ _ _ _ _ _ _) (fun _ => ?_)
    | refine stS (d_pI _ _ _ _ _) (fun _ => ?_)
    | refine stS (d_sR _ _ _ _ _) (fun _ => ?_)
    | refine stN (d_rcw _ _ _ _) (fun _ => ?_)
    | refine stN (d_gR _ _ _ _) (fun _ => ?_)
    | refine stN (d_gI _ _ _ _) (fun _ => ?_)
    | refine stS (d_X2w _ _ _) (fun _ => ?_)
    | split
theorem d_X7w (x0 : Nat) (L : List lC) : f_X7_init x0 (nw (dH L) 7) = (l_X7_init x0 (l9nw L 7)).map dH := by rw [d_nw]; exact d_X7 x0 _
theorem d_X5 (x0 : Nat) (x1 : Option Nat) (L : List lC) : f_X5_init x0 x1 (dH L) = (l_X5_init x0 x1 L).map dH := by
  unfold f_X5_init l_X5_init
  repeat' first
    | exact rfl
    | refine stS (d_pR _ _ _ _ _) (fun _ => ?_)
    | refine stS (d_pRn _ _ _ _ _ _ _) (fun _ => ?_)
    | refine stS (d_pRm _ _ _ _ _ _ _) (fun _ => ?_)
    | refine stS (d_pI _ _ _ _ _) (fun _ => ?_)
    | refine stS (d_sR _ _ _ _ _) (fun _ => ?_)
    | refine stN (d_rcw _ _ _ _) (fun _ => ?_)
    | refine stN (d_gR _ _ _ _) (fun _ => ?_)
    | refine stN (d_gI _ _ _ _) (fun _ => ?_)
    | refine stS (d_X7w _ _) (fun _ => ?_)
    | split
theorem d_X5w (x0 : Nat) (x1 : Option Nat) (L : List lC) : f_X5_init x0 x1 (nw (dH L) 5) = (l_X5_init x0 x1 (l9nw L 5)).map dH := by rw [d_nw]; exact d_X5 x0 x1 _
theorem d_X1 (x0 : Nat) (x1 : Option Nat) (x2 : Option Nat) (L : List lC) : f_X1_init x0 x1 x2 (dH L) = (l_X1_init x0 x1 x2 L).map dH := by
  unfold f_X1_init l_X1_init
  repeat' first
    | exact rfl
    | refine stS (d_pR _ _ _ _ _) (fun _ => ?_)
    | refine stS (d_pRn _ _ _ _ _ _ _) (fun _ => ?_)
    | refine stS (d_pRm _ _ _ _ _ _ _) (fun _ => ?_)
    | refine stS (d_pI _ _ _ _ _) (fun _ => ?_)
    | refine stS (d_sR _ _ _ _ _) (fun _ => ?_)
    | refine stN (d_rcw _ _ _ _) (fun _ => ?_)
    | refine stN (d_gR _ _ _ _) (fun _ => ?_)
    | refine stN (d_gI _ _ _ _) (fun _ => ?_)
    | split
theorem d_X1w (x0 : Nat) (x1 : Option Nat) (x2 : Option Nat) (L : List lC) : f_X1_init x0 x1 x2 (nw (dH L) 1) = (l_X1_init x0 x1 x2 (l9nw L 1)).map dH := by rw [d_nw]; exact d_X1 x0 x1 x2 _
theorem d_X0 (x0 : Nat) (L : List lC) : f_X0_init x0 (dH L) = (l_X0_init x0 L).map dH := by
  unfold f_X0_init l_X0_init
  repeat' first
    | exact rfl
    | refine stS (d_pR _ _ _ _ _) (fun _ => ?_)
    | refine stS (d_pRn _ _ _ _ _ _ _) (fun _ => ?_)
    | refine stS (d_pRm _ _ _ _ _ _ _) (fun _ => ?_)
    | refine stS (d_pI _ _ _ _ _) (fun _ => ?_)
    | refine stS (d_sR _ _ _ _ _) (fun _ => ?_)
    | refine stN (d_rcw _ _ _ _) (fun _ => ?_)
    | refine stN (d_gR _ _ _ _) (fun _ => ?_)
    | refine stN (d_gI _ _ _ _) (fun _ => ?_)
    | split
theorem d_X0w (x0 : Nat) (L : List lC) : f_X0_init x0 (nw (dH L) 0) = (l_X0_init x0 (l9nw L 0)).map dH := by rw [d_nw]; exact d_X0 x0 _
set_option maxHeartbeats 4000000 in
set_option maxRecDepth 20000 in
theorem d_X11 (x0 : Nat) (L : List lC) : f_X11_init x0 (dH L) = (l_X11_init x0 L).map dH := by
  unfold f_X11_init l_X11_init
  repeat' first
    | exact rfl
    | refine stS (d_pR _ _ _ _ _) (fun _ => ?_)
    | refine stS (d_pRn _ _ _ _ _ _ _) (fun _ => ?_)
    | refine stS (d_pRm _ _ _ _ _ _ _) (fun _ => ?_)
    | refine stS (d_pI _ _ _ _ _) (fun _ => ?_)
    | refine stS (d_sR _ _ _ _ _) (fun _ => ?_)
    | refine stN (d_rcw _ _ _ _) (fun _ => ?_)
    | refine stN (d_gR _ _ _ _) (fun _ => ?_)
    | refine stN (d_gI _ _ _ _) (fun _ => ?_)
    | refine stS (d_X9w _ _) (fun _ => ?_)
    | refine stS (d_X10w _ _) (fun _ => ?_)
    | refine stS (d_X5w _ _ _) (fun _ => ?_)
    | refine stS (d_X1w _ _ _ _) (fun _ => ?_)
    | refine stS (d_X0w _ _) (fun _ => ?_)
    | split
def LZ : List lC := [(20, 12, [(11, (-1)), (8, (-1)), (5, 1), (2, (-1000000)), (1, 16)], []), (11, 0, [], [(2, some 69), (1, some 28), (0, some 15), (9, some 10), (8, some 5), (7, some 4), (4, some 3), (3, some 2)]), (30, 4, [], [(3, some 97), (2, some 89), (1, some 81), (0, some 73)]), (34, 6, [], []), (39, 30, [], [(29, some 250), (28, some 245), (27, some 240), (26, some 235), (25, some 230), (24, some 225), (23, some 220), (22, some 215), (21, some 210), (20, some 205), (19, some 200), (18, some 195), (17, some 190), (16, some 185), (15, some 180), (14, some 175), (13, some 170), (12, some 165), (11, some 160), (10, some 155), (9, some 150), (8, some 145), (7, some 140), (6, some 135), (5, some 130), (4, some 125), (3, some 120), (2, some 115), (1, some 110), (0, some 105)]), (9, 0, [], [(7, some 9), (6, some 8), (5, some 7), (0, some 6)]), (20, 15, [], []), (20, 5, [], []), (20, 5, [], []), (20, 5, [], []), (9, 0, [], [(7, some 14), (6, some 13), (5, some 12), (0, some 11)]), (20, 15, [], []), (20, 5, [], []), (20, 5, [], []), (20, 5, [], []), (10, 0, [(2, 1), (1, 1)], [(4, some 27), (0, some 16)]), (3, 0, [(1, 0), (0, 0), (14, 1), (6, (-1)), (5, (-1)), (4, (-1))], [(19, some 22), (18, some 17)]), (6, 0, [(3, 2), (0, (-1)), (4, (-1))], [(2, none), (1, none), (11, some 21), (10, some 20), (9, some 19), (8, some 18)]), (20, 15, [], []), (20, 15, [], []), (20, 15, [], []), (20, 15, [], []), (9, 0, [], [(7, some 26), (6, some 25), (5, some 24), (0, some 23)]), (20, 15, [], []), (20, 5, [], []), (20, 5, [], []), (20, 5, [], []), (33, 30, [], [(0, some 16)]), (5, 0, [], [(0, some 15), (6, some 68), (5, some 67), (4, some 35), (3, some 30), (1, some 29)]), (37, 30, [], []), (7, 0, [(4, (-1)), (3, (-1)), (2, 1)], [(1, some 31), (0, some 31)]), (2, 0, [(0, 0)], [(3, some 34), (2, some 33), (1, some 32)]), (20, 4, [], []), (20, 4, [], []), (20, 4, [], []), (50, 31, [], [(30, some 66), (29, some 65), (28, some 64), (27, some 63), (26, some 62), (25, some 61), (24, some 60), (23, some 59), (22, some 58), (21, some 57), (20, some 56), (19, some 55), (18, some 54), (17, some 53), (16, some 52), (15, some 51), (14, some 50), (13, some 49), (12, some 48), (11, some 47), (10, some 46), (9, some 45), (8, some 44), (7, some 43), (6, some 42), (5, some 41), (4, some 40), (3, some 39), (2, some 38), (1, some 37), (0, some 36)]), (20, 30, [], []), (20, 30, [], []), (20, 30, [], []), (20, 30, [], []), (20, 30, [], []), (20, 30, [], []), (20, 30, [], []), (20, 30, [], []), (20, 30, [], []), (20, 30, [], []), (20, 30, [], []), (20, 30, [], []), (20, 30, [], []), (20, 30, [], []), (20, 30, [], []), (20, 30, [], []), (20, 30, [], []), (20, 30, [], []), (20, 30, [], []), (20, 30, [], []), (20, 30, [], []), (20, 30, [], []), (20, 30, [], []), (20, 30, [], []), (20, 30, [], []), (20, 30, [], []), (20, 30, [], []), (20, 30, [], []), (20, 30, [], []), (20, 30, [], []), (20, 30, [], []), (20, 31, [], []), (20, 31, [], []), (1, 0, [(8, 1000)], [(1, some 28), (0, some 15), (13, some 72), (3, some 71), (2, some 70)]), (38, 8, [], []), (36, 40, [], []), (36, 15, [], []), (0, 0, [(1, 1), (0, 10)], [(4, some 80), (3, some 74)]), (50, 5, [], [(4, some 79), (3, some 78), (2, some 77), (1, some 76), (0, some 75)]), (20, 11, [], []), (20, 11, [], []), (20, 11, [], []), (20, 11, [], []), (20, 11, [], []), (20, 5, [], []), (0, 0, [(1, 1), (0, 10)], [(4, some 88), (3, some 82)]), (50, 5, [], [(4, some 87), (3, some 86), (2, some 85), (1, some 84), (0, some 83)]), (20, 11, [], []), (20, 11, [], []), (20, 11, [], []), (20, 11, [], []), (20, 11, [], []), (20, 5, [], []), (0, 0, [(1, 1), (0, 10)], [(4, some 96), (3, some 90)]), (50, 5, [], [(4, some 95), (3, some 94), (2, some 93), (1, some 92), (0, some 91)]), (20, 11, [], []), (20, 11, [], []), (20, 11, [], []), (20, 11, [], []), (20, 11, [], []), (20, 5, [], []), (0, 0, [(1, 1), (0, 10)], [(4, some 104), (3, some 98)]), (50, 5, [], [(4, some 103), (3, some 102), (2, some 101), (1, some 100), (0, some 99)]), (20, 11, [], []), (20, 11, [], []), (20, 11, [], []), (20, 11, [], []), (20, 11, [], []), (20, 5, [], []), (9, 0, [], [(7, some 109), (6, some 108), (5, some 107), (0, some 106)]), (20, 15, [], []), (20, 5, [], []), (20, 5, [], []), (20, 5, [], []), (9, 0, [], [(7, some 114), (6, some 113), (5, some 112), (0, some 111)]), (20, 15, [], []), (20, 5, [], []), (20, 5, [], []), (20, 5, [], []), (9, 0, [], [(7, some 119), (6, some 118), (5, some 117), (0, some 116)]), (20, 15, [], []), (20, 5, [], []), (20, 5, [], []), (20, 5, [], []), (9, 0, [], [(7, some 124), (6, some 123), (5, some 122), (0, some 121)]), (20, 15, [], []), (20, 5, [], []), (20, 5, [], []), (20, 5, [], []), (9, 0, [], [(7, some 129), (6, some 128), (5, some 127), (0, some 126)]), (20, 15, [], []), (20, 5, [], []), (20, 5, [], []), (20, 5, [], []), (9, 0, [], [(7, some 134), (6, some 133), (5, some 132), (0, some 131)]), (20, 15, [], []), (20, 5, [], []), (20, 5, [], []), (20, 5, [], []), (9, 0, [], [(7, some 139), (6, some 138), (5, some 137), (0, some 136)]), (20, 15, [], []), (20, 5, [], []), (20, 5, [], []), (20, 5, [], []), (9, 0, [], [(7, some 144), (6, some 143), (5, some 142), (0, some 141)]), (20, 15, [], []), (20, 5, [], []), (20, 5, [], []), (20, 5, [], []), (9, 0, [], [(7, some 149), (6, some 148), (5, some 147), (0, some 146)]), (20, 15, [], []), (20, 5, [], []), (20, 5, [], []), (20, 5, [], []), (9, 0, [], [(7, some 154), (6, some 153), (5, some 152), (0, some 151)]), (20, 15, [], []), (20, 5, [], []), (20, 5, [], []), (20, 5, [], []), (9, 0, [], [(7, some 159), (6, some 158), (5, some 157), (0, some 156)]), (20, 15, [], []), (20, 5, [], []), (20, 5, [], []), (20, 5, [], []), (9, 0, [], [(7, some 164), (6, some 163), (5, some 162), (0, some 161)]), (20, 15, [], []), (20, 5, [], []), (20, 5, [], []), (20, 5, [], []), (9, 0, [], [(7, some 169), (6, some 168), (5, some 167), (0, some 166)]), (20, 15, [], []), (20, 5, [], []), (20, 5, [], []), (20, 5, [], []), (9, 0, [], [(7, some 174), (6, some 173), (5, some 172), (0, some 171)]), (20, 15, [], []), (20, 5, [], []), (20, 5, [], []), (20, 5, [], []), (9, 0, [], [(7, some 179), (6, some 178), (5, some 177), (0, some 176)]), (20, 15, [], []), (20, 5, [], []), (20, 5, [], []), (20, 5, [], []), (9, 0, [], [(7, some 184), (6, some 183), (5, some 182), (0, some 181)]), (20, 15, [], []), (20, 5, [], []), (20, 5, [], []), (20, 5, [], []), (9, 0, [], [(7, some 189), (6, some 188), (5, some 187), (0, some 186)]), (20, 15, [], []), (20, 5, [], []), (20, 5, [], []), (20, 5, [], []), (9, 0, [], [(7, some 194), (6, some 193), (5, some 192), (0, some 191)]), (20, 15, [], []), (20, 5, [], []), (20, 5, [], []), (20, 5, [], []), (9, 0, [], [(7, some 199), (6, some 198), (5, some 197), (0, some 196)]), (20, 15, [], []), (20, 5, [], []), (20, 5, [], []), (20, 5, [], []), (9, 0, [], [(7, some 204), (6, some 203), (5, some 202), (0, some 201)]), (20, 15, [], []), (20, 5, [], []), (20, 5, [], []), (20, 5, [], []), (9, 0, [], [(7, some 209), (6, some 208), (5, some 207), (0, some 206)]), (20, 15, [], []), (20, 5, [], []), (20, 5, [], []), (20, 5, [], []), (9, 0, [], [(7, some 214), (6, some 213), (5, some 212), (0, some 211)]), (20, 15, [], []), (20, 5, [], []), (20, 5, [], []), (20, 5, [], []), (9, 0, [], [(7, some 219), (6, some 218), (5, some 217), (0, some 216)]), (20, 15, [], []), (20, 5, [], []), (20, 5, [], []), (20, 5, [], []), (9, 0, [], [(7, some 224), (6, some 223), (5, some 222), (0, some 221)]), (20, 15, [], []), (20, 5, [], []), (20, 5, [], []), (20, 5, [], []), (9, 0, [], [(7, some 229), (6, some 228), (5, some 227), (0, some 226)]), (20, 15, [], []), (20, 5, [], []), (20, 5, [], []), (20, 5, [], []), (9, 0, [], [(7, some 234), (6, some 233), (5, some 232), (0, some 231)]), (20, 15, [], []), (20, 5, [], []), (20, 5, [], []), (20, 5, [], []), (9, 0, [], [(7, some 239), (6, some 238), (5, some 237), (0, some 236)]), (20, 15, [], []), (20, 5, [], []), (20, 5, [], []), (20, 5, [], []), (9, 0, [], [(7, some 244), (6, some 243), (5, some 242), (0, some 241)]), (20, 15, [], []), (20, 5, [], []), (20, 5, [], []), (20, 5, [], []), (9, 0, [], [(7, some 249), (6, some 248), (5, some 247), (0, some 246)]), (20, 15, [], []), (20, 5, [], []), (20, 5, [], []), (20, 5, [], []), (9, 0, [], [(7, some 254), (6, some 253), (5, some 252), (0, some 251)]), (20, 15, [], []), (20, 5, [], []), (20, 5, [], []), (20, 5, [], [])]
def L0z0 : List lC := [(20, 12, [(11, (-1)), (8, (-1)), (5, 1), (2, (-1000000)), (1, 16)], []), (11, 0, [], [])]
def eqC (a b : lC) : Bool := decide (a.1 = b.1) && (decide (a.2.1 = b.2.1) && (decide (a.2.2.1 = b.2.2.1) && decide (a.2.2.2 = b.2.2.2)))
def eqL : List lC → List lC → Bool
  | [], [] => true
  | a :: r, b :: t => eqC a b && eqL r t
  | _, _ => false
theorem eqC_e {a b : lC} (h : eqC a b = true) : a = b := by
  unfold eqC at h
  rw [Bool.and_eq_true, Bool.and_eq_true, Bool.and_eq_true] at h
  exact Prod.ext (of_decide_eq_true h.1) (Prod.ext (of_decide_eq_true h.2.1) (Prod.ext (of_decide_eq_true h.2.2.1) (of_decide_eq_true h.2.2.2)))
theorem eqL_e : ∀ (a b : List lC), eqL a b = true → a = b := by
  intro a
  induction a with
  | nil =>
    intro b h
    cases b with
    | nil => rfl
    | cons _ _ => cases h
  | cons x r ih =>
    intro b h
    cases b with
    | nil => cases h
    | cons y t =>
      have h : (eqC x y && eqL r t) = true := h
      rw [Bool.and_eq_true] at h
      rw [eqC_e h.1, ih t h.2]
def ctB : Bool := match l_X11_init 1 L0z0 with
  | some L => eqL L LZ
  | none => false
theorem l_ctor0 : ctB = true := by decide +kernel
theorem l_ctor : l_X11_init 1 L0z0 = some LZ := by
  have h := l_ctor0
  unfold ctB at h
  cases hl : l_X11_init 1 L0z0 with
  | none => rw [hl] at h; cases h
  | some L =>
    rw [hl] at h
    rw [eqL_e L LZ h]
theorem f_ctor : f_X11_init 1 (dH L0z0) = some (dH LZ) := by rw [d_X11, l_ctor]; rfl
def rl0 : List (Nat × Nat) := [(65, 0), (49, 0), (62, 0), (63, 0), (64, 0), (44, 0), (45, 0), (46, 0), (47, 0), (48, 0), (44, 1), (45, 1), (46, 1), (47, 1), (48, 1), (50, 0), (0, 0), (1, 0), (2, 0), (3, 0), (4, 0), (5, 0), (6, 0), (7, 0), (8, 0), (9, 0), (10, 0), (51, 0), (52, 0), (53, 0), (17, 0), (18, 0), (22, 0), (26, 0), (30, 0), (54, 0), (55, 0), (55, 1), (55, 2), (55, 3), (55, 4), (55, 5), (55, 6), (55, 7), (55, 8), (55, 9), (55, 10), (55, 11), (55, 12), (55, 13), (55, 14), (55, 15), (55, 16), (55, 17), (55, 18), (55, 19), (55, 20), (55, 21), (55, 22), (55, 23), (55, 24), (55, 25), (55, 26), (55, 27), (55, 28), (55, 29), (55, 30), (56, 0), (57, 0), (58, 0), (59, 0), (60, 0), (61, 0), (34, 0), (35, 0), (36, 0), (36, 1), (36, 2), (36, 3), (36, 4), (37, 0), (34, 1), (35, 1), (36, 5), (36, 6), (36, 7), (36, 8), (36, 9), (37, 1), (34, 2), (35, 2), (36, 10), (36, 11), (36, 12), (36, 13), (36, 14), (37, 2), (34, 3), (35, 3), (36, 15), (36, 16), (36, 17), (36, 18), (36, 19), (37, 3), (39, 0), (40, 0), (41, 0), (42, 0), (43, 0), (39, 1), (40, 1), (41, 1), (42, 1), (43, 1), (39, 2), (40, 2), (41, 2), (42, 2), (43, 2), (39, 3), (40, 3), (41, 3), (42, 3), (43, 3), (39, 4), (40, 4), (41, 4), (42, 4), (43, 4), (39, 5), (40, 5), (41, 5), (42, 5), (43, 5), (39, 6), (40, 6), (41, 6), (42, 6), (43, 6), (39, 7), (40, 7), (41, 7), (42, 7), (43, 7), (39, 8), (40, 8), (41, 8), (42, 8), (43, 8), (39, 9), (40, 9), (41, 9), (42, 9), (43, 9), (39, 10), (40, 10), (41, 10), (42, 10), (43, 10), (39, 11), (40, 11), (41, 11), (42, 11), (43, 11), (39, 12), (40, 12), (41, 12), (42, 12), (43, 12), (39, 13), (40, 13), (41, 13), (42, 13), (43, 13), (39, 14), (40, 14), (41, 14), (42, 14), (43, 14), (39, 15), (40, 15), (41, 15), (42, 15), (43, 15), (39, 16), (40, 16), (41, 16), (42, 16), (43, 16), (39, 17), (40, 17), (41, 17), (42, 17), (43, 17), (39, 18), (40, 18), (41, 18), (42, 18), (43, 18), (39, 19), (40, 19), (41, 19), (42, 19), (43, 19), (39, 20), (40, 20), (41, 20), (42, 20), (43, 20), (39, 21), (40, 21), (41, 21), (42, 21), (43, 21), (39, 22), (40, 22), (41, 22), (42, 22), (43, 22), (39, 23), (40, 23), (41, 23), (42, 23), (43, 23), (39, 24), (40, 24), (41, 24), (42, 24), (43, 24), (39, 25), (40, 25), (41, 25), (42, 25), (43, 25), (39, 26), (40, 26), (41, 26), (42, 26), (43, 26), (39, 27), (40, 27), (41, 27), (42, 27), (43, 27), (39, 28), (40, 28), (41, 28), (42, 28), (43, 28), (39, 29), (40, 29), (41, 29), (42, 29), (43, 29)]
def bs0 : List Nat := [16, 17, 18, 19, 20, 21, 22, 23, 24, 25, 26, 0, 0, 0, 0, 0, 0, 30, 31, 0, 0, 0, 32, 0, 0, 0, 33, 0, 0, 0, 34, 0, 0, 0, 0, 0, 0, 0, 0, 0, 0, 0, 0, 0, 0, 0, 0, 0, 0, 1, 15, 27, 28, 29, 35, 0, 67, 68, 69, 70, 71, 72, 2, 3, 4, 0]
def A0 (k i : Nat) : Nat := if k = 34 then 73 + 8 * i else if k = 35 then 74 + 8 * i else if k = 36 then 75 + 8 * (i / 5) + i % 5 else if k = 37 then 80 + 8 * i else if 39 ≤ k ∧ k ≤ 43 then 105 + 5 * i + (k - 39) else if 44 ≤ k ∧ k ≤ 48 then 5 + 5 * i + (k - 44) else if k = 55 then 36 + i else bs0.getD k 0
def ex0 (k i : Nat) : Bool := (decide (i = 0) && [0, 1, 2, 3, 4, 5, 6, 7, 8, 9, 10, 17, 18, 22, 26, 30, 49, 50, 51, 52, 53, 54, 56, 57, 58, 59, 60, 61, 62, 63, 64, 65].contains k) || (decide (i < 4) && [34, 35, 37].contains k) || (decide (i < 20) && decide (k = 36)) || (decide (i < 30) && decide (39 ≤ k ∧ k ≤ 43)) || (decide (i < 2) && decide (44 ≤ k ∧ k ≤ 48)) || (decide (i < 31) && decide (k = 55))
/-- the heap after the constructor, by roles -/
def cl0 (k i : Nat) : lC := LZ.getD (A0 k i) (0, 0, [], [])
def in0 (a : Nat) : Nat × Nat := rl0.getD a (99, 0)
def K0 : kS := (fun k i j => if ex0 k i = true then l9I (cl0 k i).2.2.1 j else 0, fun k i j => if ex0 k i = true then (l9R (cl0 k i).2.2.2 j).map in0 else none)
def okL (l : List (Nat × Option Nat)) : Bool := l.all (fun p => match p.2 with
  | none => true
  | some a => decide (A0 (in0 a).1 (in0 a).2 = a) && ex0 (in0 a).1 (in0 a).2)
theorem okL_g : ∀ (l : List (Nat × Option Nat)) (j a : Nat), okL l = true → l9R l j = some a → A0 (in0 a).1 (in0 a).2 = a ∧ ex0 (in0 a).1 (in0 a).2 = true := by
  intro l
  induction l with
  | nil => intro j a _ h; cases h
  | cons q l ih =>
    intro j a ho h
    obtain ⟨k, v⟩ := q
    unfold okL at ho
    rw [List.all_cons, Bool.and_eq_true] at ho
    have h' : (if j = k then v else l9R l j) = some a := h
    by_cases c : j = k
    · rw [if_pos c] at h'
      subst h'
      have h1 := ho.1
      rw [Bool.and_eq_true] at h1
      exact ⟨of_decide_eq_true h1.1, h1.2⟩
    · rw [if_neg c] at h'
      exact ih j a ho.2 h'
theorem ex0_lt {k i : Nat} (h : ex0 k i = true) : k < 66 ∧ i < 31 := by
  unfold ex0 at h
  simp only [Bool.or_eq_true, Bool.and_eq_true, decide_eq_true_eq, List.contains_iff_mem, List.mem_cons, List.not_mem_nil, or_false] at h
  omega
def ck0 (k i : Nat) : Bool := decide (A0 k i < 255) && (decide ((cl0 k i).1 = (kT k).1) && (decide ((cl0 k i).2.1 = (kT k).2) && (okL (cl0 k i).2.2.2 && ((decide ((in0 (A0 k i)).1 = k) && decide ((in0 (A0 k i)).2 = i)) && (decide (k = 65) || decide (A0 k i ≠ 0))))))
theorem ck0_all : ∀ k, k < 66 → ∀ i, i < 31 → (!ex0 k i || ck0 k i) = true := by decide +kernel
theorem cel0 (k : Nat) (h1 : k < 66) (i : Nat) (h2 : i < 31) (hx : ex0 k i = true) : A0 k i < 255 ∧ (cl0 k i).1 = (kT k).1 ∧ (cl0 k i).2.1 = (kT k).2 ∧ okL (cl0 k i).2.2.2 = true ∧ in0 (A0 k i) = (k, i) ∧ (k ≠ 65 → A0 k i ≠ 0) := by
  have h := ck0_all k h1 i h2
  rw [hx] at h
  have h : ck0 k i = true := h
  unfold ck0 at h
  rw [Bool.and_eq_true, Bool.and_eq_true, Bool.and_eq_true, Bool.and_eq_true, Bool.and_eq_true, Bool.and_eq_true, Bool.or_eq_true] at h
  obtain ⟨a, b, c, d, ⟨e, f⟩, g⟩ := h
  exact ⟨of_decide_eq_true a, of_decide_eq_true b, of_decide_eq_true c, d, Prod.ext (of_decide_eq_true e) (of_decide_eq_true f), fun z => g.elim (fun y => absurd (of_decide_eq_true y) z) of_decide_eq_true⟩
theorem KA0 : KA A0 (fun k i => ex0 k i = true) K0 (dH LZ) := by
  refine ⟨fun k i hx => ?_, fun k i k' i' hx hx' he => ?_, fun k i j r hx hr => ?_⟩
  · obtain ⟨h1, h2⟩ := ex0_lt hx
    obtain ⟨c1, c2, c3, c4, c5, c6⟩ := cel0 k h1 i h2 hx
    have hl : LZ.length = 255 := by decide +kernel
    refine ⟨?_, by show A0 k i < LZ.length; omega, c6⟩
    show (LZ[A0 k i]?).map dC = _
    have e : LZ[A0 k i]? = some (cl0 k i) := by
      unfold cl0
      rw [List.getD_eq_getElem?_getD, List.getElem?_eq_getElem (by omega)]; rfl
    rw [e]
    show some (dC (cl0 k i)) = _
    unfold dC
    rw [c2, c3]
    refine congrArg some (Prod.ext rfl (Prod.ext rfl (Prod.ext (funext fun j => ?_) (funext fun j => ?_))))
    · show l9I (cl0 k i).2.2.1 j = if ex0 k i = true then l9I (cl0 k i).2.2.1 j else 0
      rw [if_pos hx]
    · show l9R (cl0 k i).2.2.2 j = (if ex0 k i = true then (l9R (cl0 k i).2.2.2 j).map in0 else none).map (kp A0)
      rw [if_pos hx]
      cases hr : l9R (cl0 k i).2.2.2 j with
      | none => rfl
      | some a => exact congrArg some (okL_g _ j a c4 hr).1.symm
  · obtain ⟨h1, h2⟩ := ex0_lt hx
    obtain ⟨h3, h4⟩ := ex0_lt hx'
    have e1 := (cel0 k h1 i h2 hx).2.2.2.2.1
    have e2 := (cel0 k' h3 i' h4 hx').2.2.2.2.1
    rw [he, e2] at e1
    cases e1
    exact ⟨rfl, rfl⟩
  · obtain ⟨h1, h2⟩ := ex0_lt hx
    obtain ⟨c1, c2, c3, c4, c5, c6⟩ := cel0 k h1 i h2 hx
    have hr' : (if ex0 k i = true then (l9R (cl0 k i).2.2.2 j).map in0 else none) = some r := hr
    rw [if_pos hx] at hr'
    cases hq : l9R (cl0 k i).2.2.2 j with
    | none => rw [hq] at hr'; cases hr'
    | some a =>
      rw [hq] at hr'
      cases hr'
      exact (okL_g _ j a c4 hq).2
