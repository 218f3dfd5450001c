theorem ge2 {a : Nat} (h : a < 2) : ¬ (2 : Int32) ≤ nI a := nI_ge (b := 2) h (by decide)
theorem le2 {a : Nat} (h : 2 ≤ a) (h2 : a < 2 ^ 31) : (2 : Int32) ≤ nI a := nI_le (a := 2) h h2
theorem ge3 {a : Nat} (h : a < 3) : ¬ (3 : Int32) ≤ nI a := nI_ge (b := 3) h (by decide)
theorem le3 {a : Nat} (h : 3 ≤ a) (h2 : a < 2 ^ 31) : (3 : Int32) ≤ nI a := nI_le (a := 3) h h2
theorem ge4 {a : Nat} (h : a < 4) : ¬ (4 : Int32) ≤ nI a := nI_ge (b := 4) h (by decide)
theorem le4 {a : Nat} (h : 4 ≤ a) (h2 : a < 2 ^ 31) : (4 : Int32) ≤ nI a := nI_le (a := 4) h h2
theorem ge5 {a : Nat} (h : a < 5) : ¬ (5 : Int32) ≤ nI a := nI_ge (b := 5) h (by decide)
theorem le5 {a : Nat} (h : 5 ≤ a) (h2 : a < 2 ^ 31) : (5 : Int32) ≤ nI a := nI_le (a := 5) h h2
theorem ge6 {a : Nat} (h : a < 6) : ¬ (6 : Int32) ≤ nI a := nI_ge (b := 6) h (by decide)
theorem le6 {a : Nat} (h : 6 ≤ a) (h2 : a < 2 ^ 31) : (6 : Int32) ≤ nI a := nI_le (a := 6) h h2
theorem ge8 {a : Nat} (h : a < 8) : ¬ (8 : Int32) ≤ nI a := nI_ge (b := 8) h (by decide)
theorem le8 {a : Nat} (h : 8 ≤ a) (h2 : a < 2 ^ 31) : (8 : Int32) ≤ nI a := nI_le (a := 8) h h2
theorem ge10 {a : Nat} (h : a < 10) : ¬ (10 : Int32) ≤ nI a := nI_ge (b := 10) h (by decide)
theorem le10 {a : Nat} (h : 10 ≤ a) (h2 : a < 2 ^ 31) : (10 : Int32) ≤ nI a := nI_le (a := 10) h h2
theorem ge11 {a : Nat} (h : a < 11) : ¬ (11 : Int32) ≤ nI a := nI_ge (b := 11) h (by decide)
theorem le11 {a : Nat} (h : 11 ≤ a) (h2 : a < 2 ^ 31) : (11 : Int32) ≤ nI a := nI_le (a := 11) h h2
theorem ge12 {a : Nat} (h : a < 12) : ¬ (12 : Int32) ≤ nI a := nI_ge (b := 12) h (by decide)
theorem le12 {a : Nat} (h : 12 ≤ a) (h2 : a < 2 ^ 31) : (12 : Int32) ≤ nI a := nI_le (a := 12) h h2
theorem ge15 {a : Nat} (h : a < 15) : ¬ (15 : Int32) ≤ nI a := nI_ge (b := 15) h (by decide)
theorem le15 {a : Nat} (h : 15 ≤ a) (h2 : a < 2 ^ 31) : (15 : Int32) ≤ nI a := nI_le (a := 15) h h2
theorem ge30 {a : Nat} (h : a < 30) : ¬ (30 : Int32) ≤ nI a := nI_ge (b := 30) h (by decide)
theorem le30 {a : Nat} (h : 30 ≤ a) (h2 : a < 2 ^ 31) : (30 : Int32) ≤ nI a := nI_le (a := 30) h h2
theorem ge40 {a : Nat} (h : a < 40) : ¬ (40 : Int32) ≤ nI a := nI_ge (b := 40) h (by decide)
theorem le40 {a : Nat} (h : 40 ≤ a) (h2 : a < 2 ^ 31) : (40 : Int32) ≤ nI a := nI_le (a := 40) h h2
theorem iq0 {α : Sort _} {a : Nat} (h : a < 2 ^ 31) (X Y : α) : (if nI a = (0 : Int32) then X else Y) = if a = 0 then X else Y := by
  by_cases c : a = 0
  · rw [if_pos (show nI a = (0 : Int32) from (nI_eq (b := 0) h (by decide)).mpr c), if_pos c]
  · rw [if_neg (show ¬ nI a = (0 : Int32) from fun z => c ((nI_eq (b := 0) h (by decide)).mp z)), if_neg c]
theorem iq1 {α : Sort _} {a : Nat} (h : a < 2 ^ 31) (X Y : α) : (if nI a = (1 : Int32) then X else Y) = if a = 1 then X else Y := by
  by_cases c : a = 1
  · rw [if_pos (show nI a = (1 : Int32) from (nI_eq (b := 1) h (by decide)).mpr c), if_pos c]
  · rw [if_neg (show ¬ nI a = (1 : Int32) from fun z => c ((nI_eq (b := 1) h (by decide)).mp z)), if_neg c]
theorem iq2 {α : Sort _} {a : Nat} (h : a < 2 ^ 31) (X Y : α) : (if nI a = (2 : Int32) then X else Y) = if a = 2 then X else Y := by
  by_cases c : a = 2
  · rw [if_pos (show nI a = (2 : Int32) from (nI_eq (b := 2) h (by decide)).mpr c), if_pos c]
  · rw [if_neg (show ¬ nI a = (2 : Int32) from fun z => c ((nI_eq (b := 2) h (by decide)).mp z)), if_neg c]
theorem iq3 {α : Sort _} {a : Nat} (h : a < 2 ^ 31) (X Y : α) : (if nI a = (3 : Int32) then X else Y) = if a = 3 then X else Y := by
  by_cases c : a = 3
  · rw [if_pos (show nI a = (3 : Int32) from (nI_eq (b := 3) h (by decide)).mpr c), if_pos c]
  · rw [if_neg (show ¬ nI a = (3 : Int32) from fun z => c ((nI_eq (b := 3) h (by decide)).mp z)), if_neg c]
theorem iq4 {α : Sort _} {a : Nat} (h : a < 2 ^ 31) (X Y : α) : (if nI a = (4 : Int32) then X else Y) = if a = 4 then X else Y := by
  by_cases c : a = 4
  · rw [if_pos (show nI a = (4 : Int32) from (nI_eq (b := 4) h (by decide)).mpr c), if_pos c]
  · rw [if_neg (show ¬ nI a = (4 : Int32) from fun z => c ((nI_eq (b := 4) h (by decide)).mp z)), if_neg c]
theorem iq5 {α : Sort _} {a : Nat} (h : a < 2 ^ 31) (X Y : α) : (if nI a = (5 : Int32) then X else Y) = if a = 5 then X else Y := by
  by_cases c : a = 5
  · rw [if_pos (show nI a = (5 : Int32) from (nI_eq (b := 5) h (by decide)).mpr c), if_pos c]
  · rw [if_neg (show ¬ nI a = (5 : Int32) from fun z => c ((nI_eq (b := 5) h (by decide)).mp z)), if_neg c]
theorem iq6 {α : Sort _} {a : Nat} (h : a < 2 ^ 31) (X Y : α) : (if nI a = (6 : Int32) then X else Y) = if a = 6 then X else Y := by
  by_cases c : a = 6
  · rw [if_pos (show nI a = (6 : Int32) from (nI_eq (b := 6) h (by decide)).mpr c), if_pos c]
  · rw [if_neg (show ¬ nI a = (6 : Int32) from fun z => c ((nI_eq (b := 6) h (by decide)).mp z)), if_neg c]
theorem iq7 {α : Sort _} {a : Nat} (h : a < 2 ^ 31) (X Y : α) : (if nI a = (7 : Int32) then X else Y) = if a = 7 then X else Y := by
  by_cases c : a = 7
  · rw [if_pos (show nI a = (7 : Int32) from (nI_eq (b := 7) h (by decide)).mpr c), if_pos c]
  · rw [if_neg (show ¬ nI a = (7 : Int32) from fun z => c ((nI_eq (b := 7) h (by decide)).mp z)), if_neg c]
theorem iq8 {α : Sort _} {a : Nat} (h : a < 2 ^ 31) (X Y : α) : (if nI a = (8 : Int32) then X else Y) = if a = 8 then X else Y := by
  by_cases c : a = 8
  · rw [if_pos (show nI a = (8 : Int32) from (nI_eq (b := 8) h (by decide)).mpr c), if_pos c]
  · rw [if_neg (show ¬ nI a = (8 : Int32) from fun z => c ((nI_eq (b := 8) h (by decide)).mp z)), if_neg c]
theorem iq9 {α : Sort _} {a : Nat} (h : a < 2 ^ 31) (X Y : α) : (if nI a = (9 : Int32) then X else Y) = if a = 9 then X else Y := by
  by_cases c : a = 9
  · rw [if_pos (show nI a = (9 : Int32) from (nI_eq (b := 9) h (by decide)).mpr c), if_pos c]
  · rw [if_neg (show ¬ nI a = (9 : Int32) from fun z => c ((nI_eq (b := 9) h (by decide)).mp z)), if_neg c]
theorem iq10 {α : Sort _} {a : Nat} (h : a < 2 ^ 31) (X Y : α) : (if nI a = (10 : Int32) then X else Y) = if a = 10 then X else Y := by
  by_cases c : a = 10
  · rw [if_pos (show nI a = (10 : Int32) from (nI_eq (b := 10) h (by decide)).mpr c), if_pos c]
  · rw [if_neg (show ¬ nI a = (10 : Int32) from fun z => c ((nI_eq (b := 10) h (by decide)).mp z)), if_neg c]
theorem iq11 {α : Sort _} {a : Nat} (h : a < 2 ^ 31) (X Y : α) : (if nI a = (11 : Int32) then X else Y) = if a = 11 then X else Y := by
  by_cases c : a = 11
  · rw [if_pos (show nI a = (11 : Int32) from (nI_eq (b := 11) h (by decide)).mpr c), if_pos c]
  · rw [if_neg (show ¬ nI a = (11 : Int32) from fun z => c ((nI_eq (b := 11) h (by decide)).mp z)), if_neg c]
theorem iq15 {α : Sort _} {a : Nat} (h : a < 2 ^ 31) (X Y : α) : (if nI a = (15 : Int32) then X else Y) = if a = 15 then X else Y := by
  by_cases c : a = 15
  · rw [if_pos (show nI a = (15 : Int32) from (nI_eq (b := 15) h (by decide)).mpr c), if_pos c]
  · rw [if_neg (show ¬ nI a = (15 : Int32) from fun z => c ((nI_eq (b := 15) h (by decide)).mp z)), if_neg c]
theorem iqI {α : Sort _} {a b : Nat} (h : a < 2 ^ 31) (hb : b < 2 ^ 31) (X Y : α) : (if nI a = nI b then X else Y) = if a = b then X else Y := by
  by_cases c : a = b
  · rw [if_pos (by rw [c]), if_pos c]
  · rw [if_neg (fun z => c ((nI_eq h hb).mp z)), if_neg c]
theorem igt11 {α : Sort _} {a : Nat} (h : a < 2 ^ 31) (X Y : α) : (if (11 : Int32) < nI a then X else Y) = if 11 < a then X else Y := by
  by_cases c : 11 < a
  · rw [if_pos (show (11 : Int32) < nI a from nI_lt (a := 11) c h), if_pos c]
  · rw [if_neg (show ¬ (11 : Int32) < nI a from nI_nlt (b := a) (a := 11) (by omega) (by decide)), if_neg c]
abbrev qP : Type := Int32 × Int32
def cod (x : qP) : Int32 := if x.1 < 0 then -1000001 else 100000 * x.1 + x.2
def sm (x : Int32) : Prop := -9999 ≤ x.toInt ∧ x.toInt ≤ 9999
def okP (x : qP) : Prop := x = (-1, 0) ∨ ∃ u, u < 7 ∧ x.1 = nI u ∧ sm x.2
theorem sm_0 : sm 0 := by unfold sm; decide
theorem okP_m : okP (-1, 0) := Or.inl rfl
theorem cod_m : cod (-1, 0) = -1000001 := rfl
theorem cod_i {u : Nat} {y : Int32} (hu : u < 7) (hy : sm y) : (cod (nI u, y)).toInt = 100000 * (u : Int) + y.toInt := by
  show (if nI u < 0 then (-1000001 : Int32) else 100000 * nI u + y).toInt = _
  rw [if_neg (nI_pos (by omega)), show (100000 : Int32) = nI 100000 from rfl, pk_mul, Int32.toInt_add, nI_toInt (by omega)]
  obtain ⟨h1, h2⟩ := hy
  rw [Int.bmod_eq_of_le (by omega) (by omega)]
  omega
theorem okP_c {x : qP} (h : okP x) : x = (-1, 0) ∨ ∃ u y, u < 7 ∧ sm y ∧ x = (nI u, y) := by
  rcases h with h | ⟨u, h1, h2, h3⟩
  · exact Or.inl h
  · exact Or.inr ⟨u, x.2, h1, h3, Prod.ext h2 rfl⟩
theorem cod_ge {u : Nat} {y : Int32} (hu : u < 7) (hy : sm y) : -9999 ≤ (cod (nI u, y)).toInt ∧ (cod (nI u, y)).toInt ≤ 609999 := by
  rw [cod_i hu hy]
  obtain ⟨h1, h2⟩ := hy
  omega
theorem m1000001 : (-1000001 : Int32).toInt = -1000001 := by decide
theorem cod_inj {x y : qP} (hx : okP x) (hy : okP y) (h : cod x = cod y) : x = y := by
  rcases okP_c hx with rfl | ⟨u, a, hu, ha, rfl⟩
  · rcases okP_c hy with rfl | ⟨u', a', hu', ha', rfl⟩
    · rfl
    · have := cod_ge hu' ha'
      rw [← h, cod_m, m1000001] at this
      omega
  · rcases okP_c hy with rfl | ⟨u', a', hu', ha', rfl⟩
    · have := cod_ge hu ha
      rw [h, cod_m, m1000001] at this
      omega
    · have h1 := cod_i hu ha
      have h2 := cod_i hu' ha'
      rw [h, h2] at h1
      obtain ⟨p1, p2⟩ := ha
      obtain ⟨p3, p4⟩ := ha'
      have e1 : u = u' := by omega
      subst e1
      have e2 : a = a' := Int32.toInt_inj.mp (by omega)
      rw [e2]
theorem cod_bad {x : qP} (hx : okP x) : (cod x = -1000001) = (x = (-1, 0)) := propext ⟨fun h => cod_inj hx okP_m (h.trans cod_m.symm), fun h => by rw [h]; rfl⟩
theorem cod_np {x : qP} (hx : okP x) : ¬ cod x = -1000002 := by
  intro h
  rcases okP_c hx with rfl | ⟨u, a, hu, ha, rfl⟩
  · exact absurd h (by decide)
  · have := cod_ge hu ha
    rw [h] at this
    exact absurd this.1 (by decide)
theorem cod_u {u : Nat} {y : Int32} (hu : u < 7) (hy : sm y) : dv (cod (nI u, y) + 50000) 100000 = some (nI u) ∧ cod (nI u, y) - 100000 * nI u = y := by
  have h1 := cod_i hu hy
  obtain ⟨p1, p2⟩ := hy
  refine ⟨?_, ?_⟩
  · unfold dv
    rw [if_neg (by decide)]
    refine congrArg some (Int32.toInt_inj.mp ?_)
    have e1 : (cod (nI u, y) + 50000).toInt = 100000 * (u : Int) + y.toInt + 50000 := by
      rw [Int32.toInt_add, h1, show (50000 : Int32).toInt = 50000 by decide, Int.bmod_eq_of_le (by omega) (by omega)]
    rw [Int32.toInt_div, e1, show (100000 : Int32).toInt = 100000 by decide, Int.tdiv_eq_ediv_of_nonneg (by omega), nI_toInt (by omega), Int.bmod_eq_of_le (by omega) (by omega)]
    omega
  · refine Int32.toInt_inj.mp ?_
    rw [Int32.toInt_sub, h1, show (100000 : Int32) = nI 100000 from rfl, pk_mul, nI_toInt (by omega), Int.bmod_eq_of_le (by omega) (by omega)]
    omega
theorem okP_neg {x : qP} (hx : okP x) : (x.1 < 0) = (x = (-1, 0)) := by
  rcases okP_c hx with rfl | ⟨u, a, hu, ha, rfl⟩
  · exact propext ⟨fun _ => rfl, fun _ => by decide⟩
  · have h1 : ¬ nI u < 0 := nI_pos (by omega)
    refine propext ⟨fun h => absurd h h1, fun h => ?_⟩
    have := congrArg Prod.fst h
    have h2 : nI u = -1 := this
    rw [h2] at h1
    exact absurd (by decide) h1
def g3 (t : Nat × Nat × Nat) (v : Nat) : Nat := match v with
  | 0 => t.1
  | 1 => t.2.1
  | _ => t.2.2
def u3 (t : Nat × Nat × Nat) (v x : Nat) : Nat × Nat × Nat := match v with
  | 0 => (x, t.2.1, t.2.2)
  | 1 => (t.1, x, t.2.2)
  | _ => (t.1, t.2.1, x)
def sG (c : Nat) : Option Nat := if c < 2 then none else some ((c - 2) / 2)
def sRg (c : Nat × Nat × Nat) (v : Nat) : Nat → Nat → Bool
  | 0, _ => false
  | k + 1, w => match sG (g3 c w) with
    | none => false
    | some x => if x = v then true else sRg c v k x
def sFl (c : Nat × Nat × Nat) : Nat → Nat → Nat → Option Nat → Bool → Nat × Option Nat × Bool
  | 0, _, l, s, r => (l, s, r)
  | k + 1, w, l, s, r => match sG (g3 c w) with
    | none => (l, s, r)
    | some x => if r = true then (l, s, r) else sFl c k x x (if (!sRg c w 3 w && decide (g3 c w % 2 = 1)) = true then some w else s) (sRg c w 3 w)
def sFs (s : Option Nat) : Nat := match s with
  | none => 6
  | some w => 3 + w
def sFe (c : Nat × Nat × Nat) (q : Nat × Option Nat × Bool) : Nat := if (!q.2.2 && decide (g3 c q.1 = 1)) = true then q.1 else sFs q.2.1
theorem sFl_n {c : Nat × Nat × Nat} {k w l : Nat} {s : Option Nat} {r : Bool} (h : sG (g3 c w) = none) : sFl c (k + 1) w l s r = (l, s, r) := by unfold sFl; rw [h]
theorem sFl_t {c : Nat × Nat × Nat} {k w l x : Nat} {s : Option Nat} (h : sG (g3 c w) = some x) : sFl c (k + 1) w l s true = (l, s, true) := by unfold sFl; rw [h]; rfl
theorem sFl_f {c : Nat × Nat × Nat} {k w l x : Nat} {s : Option Nat} (h : sG (g3 c w) = some x) : sFl c (k + 1) w l s false = sFl c k x x (if (!sRg c w 3 w && decide (g3 c w % 2 = 1)) = true then some w else s) (sRg c w 3 w) := by
  rw [sFl, h]
  rfl
def sOwn (c : Nat × Nat × Nat) (v : Nat) : Nat := if g3 c v = 1 then v else 6
def sRf (c : Nat × Nat × Nat) (v : Nat) : Nat := match sG (g3 c v) with
  | none => sOwn c v
  | some _ => sFe c (sFl c 3 v v none false)
def sSt (c t : Nat × Nat × Nat) (v : Nat) : Nat := if g3 t v = 7 then (match sG (g3 c v) with
  | none => sOwn c v
  | some w => if g3 t w = 6 then (if g3 c v % 2 = 1 then 3 + v else 6) else g3 t w) else g3 t v
def sS0 (c : Nat × Nat × Nat) (v : Nat) : Nat := if sRg c v 3 v = true then 6 else 7
def sSv (c t : Nat × Nat × Nat) (v : Nat) : Nat × Nat × Nat := u3 t v (sSt c t v)
def sSr (c t : Nat × Nat × Nat) : Nat × Nat × Nat := sSv c (sSv c (sSv c t 0) 1) 2
def sCl (c : Nat × Nat × Nat) : Nat × Nat × Nat := sSr c (sSr c (sSr c (sS0 c 0, sS0 c 1, sS0 c 2)))
theorem s_eq : ∀ a, a < 8 → ∀ b, b < 8 → ∀ d, d < 8 → ∀ v, v < 3 → g3 (sCl (a, b, d)) v = sRf (a, b, d) v ∧ sRf (a, b, d) v < 7 := by decide +kernel
def sCk (c : Nat × Nat × Nat) (v : Nat) : Bool := decide (sRf c v < 3) || (decide (6 ≤ sRf c v) || (decide (2 ≤ g3 c (sRf c v - 3)) && decide (g3 c (sRf c v - 3) % 2 = 1)))
theorem s_eq3 : ∀ a, a < 8 → ∀ b, b < 8 → ∀ d, d < 8 → ∀ v, v < 3 → sCk (a, b, d) v = true := by decide +kernel
theorem s_eq2 (a : Nat) (ha : a < 8) (b : Nat) (hb : b < 8) (d : Nat) (hd : d < 8) (v : Nat) (hv : v < 3) : ¬ (3 ≤ sRf (a, b, d) v ∧ sRf (a, b, d) v < 6) ∨ (2 ≤ g3 (a, b, d) (sRf (a, b, d) v - 3) ∧ g3 (a, b, d) (sRf (a, b, d) v - 3) % 2 = 1) := by
  have h := s_eq3 a ha b hb d hd v hv
  unfold sCk at h
  simp only [Bool.or_eq_true, Bool.and_eq_true, decide_eq_true_eq] at h
  omega
theorem g3u : ∀ v, v < 3 → ∀ w, w < 3 → ∀ t x, g3 (u3 t v x) w = if w = v then x else g3 t w := by
  intro v hv w hw t x
  obtain rfl | rfl | rfl : v = 0 ∨ v = 1 ∨ v = 2 := by omega
  all_goals obtain rfl | rfl | rfl : w = 0 ∨ w = 1 ∨ w = 2 := by omega
  all_goals rfl
def vIn (P : Option (Nat → qP)) (v : Nat) : qP := match P with
  | none => (-1, 0)
  | some f => f v
def vBa (σ : mS) (P : Option (Nat → qP)) (v : Nat) (b : Option Nat) : qP := match b with
  | none => vIn P v
  | some a => if σ.1 37 (16 * a + (12 + v)) = 8 ∨ σ.1 37 (16 * a + (12 + v)) = 9 then vIn P v else if σ.1 37 (16 * a + (12 + v)) ≤ 6 then (σ.1 37 (16 * a + (12 + v)), if σ.1 37 (16 * a + (12 + v)) = 6 then 0 else σ.1 38 (16 * a + (12 + v))) else (-1, 0)
def vNd (σ : mS) (v : Nat) (b : Option Nat) : Bool := match b with
  | none => false
  | some a => decide (σ.1 37 (16 * a + (12 + v)) = 11)
def vAm (σ : mS) (v : Nat) (b : Option Nat) : Nat := match b with
  | none => 0
  | some a => (σ.1 40 (16 * a + (12 + v))).toNatClampNeg - 12
def vSe (σ : mS) (v : Nat) (b : Option Nat) : Bool := match b with
  | none => false
  | some a => decide (0 ≤ σ.1 41 (16 * a + (12 + v)))
def vSc (σ : mS) (v : Nat) (b : Option Nat) : qP := match b with
  | none => (-1, 0)
  | some a => (σ.1 41 (16 * a + (12 + v)), if σ.1 41 (16 * a + (12 + v)) = 6 then 0 else σ.1 42 (16 * a + (12 + v)))
def vKn (σ : mS) (P : Option (Nat → qP)) (v : Nat) (b : Option Nat) : Nat := if vNd σ v b = true then 2 + 2 * vAm σ v b + (if vSe σ v b = true then 1 else 0) else if (vBa σ P v b).1 < 0 then 0 else 1
def vK3 (σ : mS) (P : Option (Nat → qP)) (R : Nat → Option Nat) : Nat × Nat × Nat := (vKn σ P 0 (R 12), vKn σ P 1 (R 13), vKn σ P 2 (R 14))
theorem vK3_g (σ : mS) (P : Option (Nat → qP)) (R : Nat → Option Nat) : ∀ v, v < 3 → g3 (vK3 σ P R) v = vKn σ P v (R (12 + v)) := by
  intro v hv
  obtain rfl | rfl | rfl : v = 0 ∨ v = 1 ∨ v = 2 := by omega
  all_goals rfl
def vSy (σ : mS) (P : Option (Nat → qP)) (R : Nat → Option Nat) (s : Nat) : qP := if s < 3 then vBa σ P s (R (12 + s)) else if s < 6 then vSc σ (s - 3) (R (12 + (s - 3))) else (-1, 0)
def qVar (σ : mS) (P : Option (Nat → qP)) (R : Nat → Option Nat) (v : Nat) : qP := vSy σ P R (sRf (vK3 σ P R) v)
def rOK (σ : mS) (p a : Nat) : Prop := ∃ u, u < 12 ∧ σ.1 37 (16 * a + p) = nI u ∧ (u < 6 → sm (σ.1 38 (16 * a + p))) ∧ (u = 4 → p = 1 ∨ p = 2 ∨ 12 ≤ p) ∧
  (u = 11 → (∃ v, v < 3 ∧ σ.1 40 (16 * a + p) = nI (12 + v)) ∧ (σ.1 41 (16 * a + p) = -1 ∨ ∃ w, w < 7 ∧ σ.1 41 (16 * a + p) = nI w ∧ (w < 6 → sm (σ.1 42 (16 * a + p)))))
theorem nI_is {u k : Nat} (hu : u < 2 ^ 31) (hk : k < 2 ^ 31) : (nI u = OfNat.ofNat k) = (u = k) := nI_eqE hu hk
theorem vAm_lt {σ : mS} {v a : Nat} (h : rOK σ (12 + v) a) (hn : vNd σ v (some a) = true) : vAm σ v (some a) < 3 ∧ σ.1 40 (16 * a + (12 + v)) = nI (12 + vAm σ v (some a)) := by
  obtain ⟨u, hu, h1, -, -, h4⟩ := h
  have h9 : σ.1 37 (16 * a + (12 + v)) = 11 := of_decide_eq_true hn
  rw [h1] at h9
  have h8 : u = 11 := (nI_eq (b := 11) (by omega) (by decide)).mp h9
  obtain ⟨w, hw, h5⟩ := (h4 h8).1
  have e1 : vAm σ v (some a) = w := by
    show (σ.1 40 (16 * a + (12 + v))).toNatClampNeg - 12 = w
    rw [h5, nI_clamp (by omega)]
    omega
  rw [e1]
  exact ⟨hw, h5⟩
section V5
variable {σ : mS} {P : Option (Nat → qP)} {R : Nat → Option Nat}
theorem vKn_8 {v : Nat} (h : ∀ a, R (12 + v) = some a → rOK σ (12 + v) a) : vKn σ P v (R (12 + v)) < 8 := by
  unfold vKn
  by_cases hn : vNd σ v (R (12 + v)) = true
  · rw [if_pos hn]
    cases hr : R (12 + v) with
    | none => rw [hr] at hn; exact absurd (show false = true from hn) (by decide)
    | some a =>
      rw [hr] at hn
      have := (vAm_lt (h a hr) hn).1
      by_cases hs : vSe σ v (some a) = true
      · rw [if_pos hs]; omega
      · rw [if_neg hs]; omega
  · rw [if_neg hn]
    by_cases hs : (vBa σ P v (R (12 + v))).1 < 0
    · rw [if_pos hs]; omega
    · rw [if_neg hs]; omega
theorem vK3_eq (h : ∀ v, v < 3 → ∀ a, R (12 + v) = some a → rOK σ (12 + v) a) {v : Nat} (hv : v < 3) : g3 (sCl (vK3 σ P R)) v = sRf (vK3 σ P R) v ∧ sRf (vK3 σ P R) v < 7 := s_eq _ (vKn_8 (v := 0) (h 0 (by decide))) _ (vKn_8 (v := 1) (h 1 (by decide))) _ (vKn_8 (v := 2) (h 2 (by decide))) v hv
theorem vIn_ok {v : Nat} (hP : ∀ f, P = some f → okP (f v)) : okP (vIn P v) := by
  unfold vIn
  cases P with
  | none => exact okP_m
  | some f => exact hP f rfl
theorem vBa_ok {v : Nat} {b : Option Nat} (h : ∀ a, b = some a → rOK σ (12 + v) a) (hP : ∀ f, P = some f → okP (f v)) : okP (vBa σ P v b) := by
  unfold vBa
  cases b with
  | none => exact vIn_ok hP
  | some a =>
    obtain ⟨u, hu, h1, h2, -, -⟩ := h a rfl
    show okP (if σ.1 37 (16 * a + (12 + v)) = 8 ∨ σ.1 37 (16 * a + (12 + v)) = 9 then vIn P v else if σ.1 37 (16 * a + (12 + v)) ≤ 6 then (σ.1 37 (16 * a + (12 + v)), if σ.1 37 (16 * a + (12 + v)) = 6 then 0 else σ.1 38 (16 * a + (12 + v))) else (-1, 0))
    by_cases c1 : σ.1 37 (16 * a + (12 + v)) = 8 ∨ σ.1 37 (16 * a + (12 + v)) = 9
    · rw [if_pos c1]; exact vIn_ok hP
    · rw [if_neg c1]
      by_cases c2 : σ.1 37 (16 * a + (12 + v)) ≤ 6
      · rw [if_pos c2]
        have hu7 : u ≤ 6 := by
          rw [h1] at c2
          exact (nI_leI (b := 6) (by omega) (by decide)).mp c2
        refine Or.inr ⟨u, by omega, h1, ?_⟩
        show sm (if σ.1 37 (16 * a + (12 + v)) = 6 then 0 else σ.1 38 (16 * a + (12 + v)))
        by_cases c3 : σ.1 37 (16 * a + (12 + v)) = 6
        · rw [if_pos c3]; exact sm_0
        · rw [if_neg c3]
          refine h2 ?_
          have : u ≠ 6 := fun z => c3 (by rw [h1, z]; rfl)
          omega
      · rw [if_neg c2]; exact okP_m
theorem vNd_ba {v : Nat} {b : Option Nat} (h : vNd σ v b = true) : vBa σ P v b = (-1, 0) := by
  cases b with
  | none => exact absurd (show false = true from h) (by decide)
  | some a =>
    have h9 : σ.1 37 (16 * a + (12 + v)) = 11 := of_decide_eq_true h
    show (if σ.1 37 (16 * a + (12 + v)) = 8 ∨ σ.1 37 (16 * a + (12 + v)) = 9 then vIn P v else if σ.1 37 (16 * a + (12 + v)) ≤ 6 then (σ.1 37 (16 * a + (12 + v)), if σ.1 37 (16 * a + (12 + v)) = 6 then 0 else σ.1 38 (16 * a + (12 + v))) else (-1, 0)) = _
    rw [h9, if_neg (by decide), if_neg (by decide)]
theorem vSc_ok {v : Nat} {b : Option Nat} (h : ∀ a, b = some a → rOK σ (12 + v) a) (hn : vNd σ v b = true) (hs : vSe σ v b = true) : okP (vSc σ v b) ∧ ¬ (vSc σ v b).1 < 0 := by
  cases b with
  | none => exact absurd (show false = true from hn) (by decide)
  | some a =>
    obtain ⟨u, hu, h1, -, -, h4⟩ := h a rfl
    have h9 : σ.1 37 (16 * a + (12 + v)) = 11 := of_decide_eq_true hn
    rw [h1] at h9
    have h8 : u = 11 := (nI_eq (b := 11) (by omega) (by decide)).mp h9
    have h7 : 0 ≤ σ.1 41 (16 * a + (12 + v)) := of_decide_eq_true hs
    rcases (h4 h8).2 with h5 | ⟨w, hw, h5, h6⟩
    · rw [h5] at h7; exact absurd h7 (by decide)
    · refine ⟨Or.inr ⟨w, hw, h5, ?_⟩, Int32.not_lt.mpr h7⟩
      show sm (if σ.1 41 (16 * a + (12 + v)) = 6 then 0 else σ.1 42 (16 * a + (12 + v)))
      by_cases c3 : σ.1 41 (16 * a + (12 + v)) = 6
      · rw [if_pos c3]; exact sm_0
      · rw [if_neg c3]
        refine h6 ?_
        have : w ≠ 6 := fun z => c3 (by rw [h5, z]; rfl)
        omega
theorem sG_n {c : Nat} (h : c < 2) : sG c = none := if_pos h
theorem sG_s {w s : Nat} (h : s < 2) : sG (2 + 2 * w + s) = some w := by
  unfold sG
  rw [if_neg (by omega)]
  exact congrArg some (by omega)
theorem vKn_n {v : Nat} (hn : vNd σ v (R (12 + v)) = false) : sG (vKn σ P v (R (12 + v))) = none ∧ ((vKn σ P v (R (12 + v)) = 1) = (0 ≤ (vBa σ P v (R (12 + v))).1)) := by
  unfold vKn
  rw [hn, if_neg (by decide)]
  by_cases hs : (vBa σ P v (R (12 + v))).1 < 0
  · rw [if_pos hs]
    exact ⟨rfl, propext ⟨fun z => by omega, fun z => absurd z (Int32.not_le.mpr hs)⟩⟩
  · rw [if_neg hs]
    exact ⟨rfl, propext ⟨fun _ => Int32.not_lt.mp hs, fun _ => rfl⟩⟩
theorem vKn_y {v : Nat} (hn : vNd σ v (R (12 + v)) = true) : sG (vKn σ P v (R (12 + v))) = some (vAm σ v (R (12 + v))) ∧ decide (vKn σ P v (R (12 + v)) % 2 = 1) = vSe σ v (R (12 + v)) ∧ vKn σ P v (R (12 + v)) ≠ 1 := by
  unfold vKn
  rw [if_pos hn]
  cases hs : vSe σ v (R (12 + v)) with
  | true =>
    rw [if_pos rfl]
    exact ⟨sG_s (by decide), decide_eq_true (by omega), by omega⟩
  | false =>
    rw [if_neg (by decide)]
    exact ⟨sG_s (by decide), decide_eq_false (by omega), by omega⟩
theorem qVar_own {v : Nat} (hv : v < 3) (h : ∀ a, R (12 + v) = some a → rOK σ (12 + v) a) (hP : ∀ f, P = some f → okP (f v)) (hn : vNd σ v (R (12 + v)) = false) : qVar σ P R v = vBa σ P v (R (12 + v)) := by
  obtain ⟨h1, h2⟩ := vKn_n (P := P) hn
  have hok := vBa_ok h hP
  unfold qVar sRf
  rw [vK3_g σ P R v hv, h1]
  show vSy σ P R (sOwn (vK3 σ P R) v) = _
  unfold sOwn
  rw [vK3_g σ P R v hv]
  by_cases c : vKn σ P v (R (12 + v)) = 1
  · rw [if_pos c]
    unfold vSy
    rw [if_pos hv]
  · rw [if_neg c]
    have : (vBa σ P v (R (12 + v))).1 < 0 := Int32.not_le.mp (fun z => c (h2.mpr z))
    rw [okP_neg hok] at this
    rw [this]
    rfl
end V5
def vSu (p : Nat) (u : Int32) : Bool := decide (6 < u) || (decide (11 < p) || ((decide (u = 0) && !decide (1 ≤ p ∧ p ≤ 4)) || (((decide (1 ≤ u ∧ u ≤ 3) || decide (u = 5)) && decide (1 ≤ p ∧ p ≤ 4)) || ((decide (u = 4) && decide (1 ≤ p ∧ p ≤ 2)) || (decide (u = 6) && decide (p = 2))))))
def vI0 (p : Nat) : Int32 := if p = 1 then 16 else if p = 2 then -1000000 else if p = 5 then 1 else if p = 8 ∨ p = 11 then -1 else 0
def vBd (x : Int64) : Int32 := if (0 : Int32) ≤ lg_cmp x (-100000) then (if lg_cmp x 100000 ≤ (0 : Int32) then x.toInt32 else 100000) else -100000
def vHd (n b : Int32) : Int32 := vBd (n.toInt64 * b.toInt64 / 100)
def vUn (σ : mS) (V : Nat → qP) (p : Nat) (b : Option Nat) : Int32 × Int32 := match b with
  | none => (9, 0)
  | some a => if σ.1 37 (16 * a + p) = 11 then
      (let x := V ((σ.1 40 (16 * a + p)).toNatClampNeg - 12)
       if x.1 < 0 then (if σ.1 41 (16 * a + p) < 0 then (9, 0) else if vSu p (σ.1 41 (16 * a + p)) = true then (σ.1 41 (16 * a + p), σ.1 42 (16 * a + p)) else (9, 0))
       else if vSu p x.1 = true then x else (9, 0)) else (σ.1 37 (16 * a + p), σ.1 38 (16 * a + p))
def vLe (P : Option (Nat → Int32)) : Int32 := match P with
  | none => 16
  | some f => f 1
def vSn (P : Option (Nat → Int32)) (width : Int32) : Int32 := match P with
  | none => width
  | some f => f 2
def vPa (P : Option (Nat → Int32)) (p : Nat) : Int32 := match P with
  | none => vI0 p
  | some f => f p
def vTo (P : Option (Nat → Int32)) (p : Nat) (own top : Int32) : Int32 := match P with
  | none => if p = 1 then 16 else own
  | some _ => top
def vEv (P : Option (Nat → Int32)) (own top held width : Int32) (p : Nat) (un : Int32 × Int32) : Int32 :=
  if un.1 = 8 ∨ (un.1 = 9 ∧ p < 2) then vPa P p else if 6 < un.1 then vI0 p else if un.1 < 2 then un.2 else
  if un.1 = 2 then vHd un.2 (if p = 1 then vLe P else own) else
  if un.1 = 3 then vHd un.2 (vTo P p own top) else
  if un.1 = 4 then (if p = 1 then vHd un.2 (vLe P) else if vSn P width = -1000000 then -1000000 else vHd un.2 (vSn P width)) else
  if un.1 = 5 then vHd un.2 held else -1000000
abbrev qI : Type := (Nat → Option Nat) × Option ((Nat → Int32) × (Nat → qP)) × Int32 × Option Int32
def qiV (I : qI) : Option (Nat → qP) := I.2.1.map (fun x => x.2)
def qiP (I : qI) : Option (Nat → Int32) := I.2.1.map (fun x => x.1)
def qVr (σ : mS) (I : qI) (v : Nat) : qP := qVar σ (qiV I) I.1 v
def qHo (w : Int32) (o : Option Int32) : Int32 := match o with
  | none => w
  | some z => z
def qHe (σ : mS) (I : qI) : Int32 := qHo (σ.2 50) I.2.2.2
def qSz (σ : mS) (I : qI) : Int32 := vEv (qiP I) 0 I.2.2.1 (qHe σ I) (σ.2 50) 1 (vUn σ (qVr σ I) 1 (I.1 1))
def qVl (σ : mS) (I : qI) (p : Nat) : Int32 := vEv (qiP I) (qSz σ I) I.2.2.1 (qHe σ I) (σ.2 50) p (vUn σ (qVr σ I) p (I.1 p))
def qTl (σ : mS) (I : qI) (p : Nat) : Int32 := if p < 12 then qVl σ I p else cod (qVr σ I (p - 12))
def qImb (σ : mS) (p : Nat) (b : Option Nat) : Bool := match b with
  | none => false
  | some a => Lim σ p a
def qIm (σ : mS) (I : qI) (p : Nat) : Bool := qImb σ p (I.1 p)
theorem vTo_1 {P : Option (Nat → Int32)} {a b c : Int32} : vTo P 1 a c = vTo P 1 b c := by cases P <;> rfl
theorem vEv_own1 {P : Option (Nat → Int32)} {a a' b c d : Int32} {un : Int32 × Int32} : vEv P a b c d 1 un = vEv P a' b c d 1 un := by
  unfold vEv
  rw [vTo_1 (P := P) (a := a) (b := a')]
  simp only [if_true]
theorem qVl_1 (σ : mS) (I : qI) : qVl σ I 1 = qSz σ I := vEv_own1
