def ins (e : Nat) : Nat → List Nat → List Nat
  | 0, l => e :: l
  | _ + 1, [] => [e]
  | i + 1, x :: l => x :: ins e i l
def del : Nat → List Nat → List Nat
  | _, [] => []
  | 0, _ :: l => l
  | i + 1, x :: l => x :: del i l
theorem ins_get (e : Nat) : ∀ (i : Nat) (l : List Nat) (j : Nat), i ≤ l.length → (ins e i l)[j]? = if j < i then l[j]? else if j = i then some e else l[j - 1]? := by
  intro i
  induction i with
  | zero =>
    intro l j _
    show (e :: l)[j]? = _
    rw [if_neg (by omega)]
    cases j with
    | zero => rw [if_pos rfl]; rfl
    | succ j => rw [if_neg (by omega)]; rfl
  | succ i ih =>
    intro l j h
    cases l with
    | nil => exact absurd h (by simp)
    | cons x l =>
      have h' : i ≤ l.length := by
        have : (x :: l).length = l.length + 1 := rfl
        omega
      show (x :: ins e i l)[j]? = _
      cases j with
      | zero => rw [if_pos (by omega)]; rfl
      | succ j =>
        show (ins e i l)[j]? = _
        rw [ih l j h']
        by_cases c : j < i
        · rw [if_pos c, if_pos (by omega)]; rfl
        · rw [if_neg c, if_neg (show ¬ j + 1 < i + 1 by omega)]
          by_cases c2 : j = i
          · rw [if_pos c2, if_pos (by omega)]
          · rw [if_neg c2, if_neg (by omega)]
            obtain ⟨j', rfl⟩ : ∃ j', j = j' + 1 := ⟨j - 1, by omega⟩
            rfl
theorem ins_mem {e x : Nat} : ∀ (i : Nat) (l : List Nat), x ∈ ins e i l ↔ (x = e ∨ x ∈ l) := by
  intro i
  induction i with
  | zero => intro l; exact List.mem_cons
  | succ i ih =>
    intro l
    cases l with
    | nil =>
      show x ∈ [e] ↔ _
      simp
    | cons y l =>
      show x ∈ y :: ins e i l ↔ _
      rw [List.mem_cons, ih l, List.mem_cons]
      constructor
      · rintro (h | h | h)
        · exact Or.inr (Or.inl h)
        · exact Or.inl h
        · exact Or.inr (Or.inr h)
      · rintro (h | h | h)
        · exact Or.inr (Or.inl h)
        · exact Or.inl h
        · exact Or.inr (Or.inr h)
theorem ins_nd {e : Nat} : ∀ (i : Nat) (l : List Nat), l.Nodup → e ∉ l → (ins e i l).Nodup := by
  intro i
  induction i with
  | zero => intro l h1 h2; exact List.nodup_cons.mpr ⟨h2, h1⟩
  | succ i ih =>
    intro l h1 h2
    cases l with
    | nil =>
      show [e].Nodup
      simp
    | cons y l =>
      have h := List.nodup_cons.mp h1
      show (y :: ins e i l).Nodup
      refine List.nodup_cons.mpr ⟨fun z => ?_, ih l h.2 (fun z => h2 (List.mem_cons_of_mem _ z))⟩
      rcases (ins_mem i l).mp z with z | z
      · exact h2 (by rw [z]; exact List.mem_cons_self)
      · exact h.1 z
theorem ins_len {e : Nat} : ∀ (i : Nat) (l : List Nat), (ins e i l).length = l.length + 1 := by
  intro i
  induction i with
  | zero => intro l; rfl
  | succ i ih =>
    intro l
    cases l with
    | nil => rfl
    | cons y l =>
      show (ins e i l).length + 1 = l.length + 1 + 1
      rw [ih l]
theorem del_c (i x : Nat) (l : List Nat) : del (i + 1) (x :: l) = x :: del i l := rfl
theorem del_0 (x : Nat) (l : List Nat) : del 0 (x :: l) = l := rfl
theorem del_get : ∀ (i : Nat) (l : List Nat) (j : Nat), i < l.length → (del i l)[j]? = if j < i then l[j]? else l[j + 1]? := by
  intro i
  induction i with
  | zero =>
    intro l j h
    cases l with
    | nil => exact absurd h (by simp)
    | cons x l =>
      rw [del_0, if_neg (by omega)]
      rfl
  | succ i ih =>
    intro l j h
    cases l with
    | nil => exact absurd h (by simp)
    | cons x l =>
      have h' : i < l.length := by
        have : (x :: l).length = l.length + 1 := rfl
        omega
      rw [del_c]
      cases j with
      | zero => rw [if_pos (by omega)]; rfl
      | succ j =>
        show (del i l)[j]? = _
        rw [ih l j h']
        by_cases c : j < i
        · rw [if_pos c, if_pos (by omega)]; rfl
        · rw [if_neg c, if_neg (by omega)]; rfl
theorem del_len : ∀ (i : Nat) (l : List Nat), i < l.length → (del i l).length + 1 = l.length := by
  intro i
  induction i with
  | zero =>
    intro l h
    cases l with
    | nil => exact absurd h (by simp)
    | cons x l => rw [del_0]; rfl
  | succ i ih =>
    intro l h
    cases l with
    | nil => exact absurd h (by simp)
    | cons x l =>
      have h' : i < l.length := by
        have : (x :: l).length = l.length + 1 := rfl
        omega
      rw [del_c]
      show (del i l).length + 1 + 1 = l.length + 1
      rw [ih l h']
theorem del_mem {e x : Nat} : ∀ (i : Nat) (l : List Nat), l.Nodup → l[i]? = some e → (x ∈ del i l ↔ (x ∈ l ∧ x ≠ e)) := by
  intro i
  induction i with
  | zero =>
    intro l h1 h2
    cases l with
    | nil => cases h2
    | cons y l =>
      have h := List.nodup_cons.mp h1
      have hy : y = e := by
        have : some y = some e := h2
        exact Option.some.inj this
      subst hy
      rw [del_0, List.mem_cons]
      constructor
      · exact fun z => ⟨Or.inr z, fun w => h.1 (by rw [← w]; exact z)⟩
      · rintro ⟨z | z, w⟩
        · exact absurd z w
        · exact z
  | succ i ih =>
    intro l h1 h2
    cases l with
    | nil => cases h2
    | cons y l =>
      have h := List.nodup_cons.mp h1
      have h2' : l[i]? = some e := h2
      rw [del_c, List.mem_cons, ih l h.2 h2', List.mem_cons]
      constructor
      · rintro (z | ⟨z, w⟩)
        · exact ⟨Or.inl z, fun w => h.1 (by rw [← z, w]; exact List.mem_of_getElem? h2')⟩
        · exact ⟨Or.inr z, w⟩
      · rintro ⟨z | z, w⟩
        · exact Or.inl z
        · exact Or.inr ⟨z, w⟩
theorem del_nd {e : Nat} : ∀ (i : Nat) (l : List Nat), l.Nodup → l[i]? = some e → (del i l).Nodup := by
  intro i
  induction i with
  | zero =>
    intro l h1 h2
    cases l with
    | nil => cases h2
    | cons y l => rw [del_0]; exact (List.nodup_cons.mp h1).2
  | succ i ih =>
    intro l h1 h2
    cases l with
    | nil => cases h2
    | cons y l =>
      have h := List.nodup_cons.mp h1
      have h2' : l[i]? = some e := h2
      rw [del_c]
      exact List.nodup_cons.mpr ⟨fun z => h.1 ((del_mem i l h.2 h2').mp z).1, ih l h.2 h2'⟩
section TAA
variable {T T' : qqT} {G : qqG} {L : qqL} {A A' : kA} {ex ex' : Nat → Nat → Prop} {K K' : kS} {S S' : cS} {σ σ' : mS}
def TA (T : qqT) (e x : Nat) : Bool := qqIt (fun x => decide (x = e)) (fun x r => decide (x = e) || r) (Tup T) 30 x
theorem TA_eq (hw : Tw T) {e x : Nat} (hx : x < Tn T) : TA T e x = match Tup T x with
    | none => decide (x = e)
    | some q => decide (x = e) || TA T e q := by
  obtain ⟨rk, h1⟩ := hw.rkup
  exact qqIt_eq (fin := fun x => decide (x = e)) (f := fun x r => decide (x = e) || r) hw.n30 (fun e q _ hs => ⟨(hw.up hs).2, h1 e q hs⟩) hx
theorem TA_s (hw : Tw T) {e : Nat} (he : e < Tn T) : TA T e e = true := by
  rw [TA_eq hw he]
  cases Tup T e with
  | none => exact decide_eq_true rfl
  | some q =>
    show (decide (e = e) || TA T e q) = true
    rw [decide_eq_true rfl]; rfl
theorem TA_u (hw : Tw T) {e x q : Nat} (hx : x < Tn T) (hq : Tup T x = some q) : TA T e x = (decide (x = e) || TA T e q) := by rw [TA_eq hw hx, hq]
def lsB (T : qqT) (e : Nat) : Bool := decide (e ≠ 0) && (Tup T e).isNone
theorem c_mayEnter_2 (hw : Tw T) (t : KT T ex K) (h : KA A ex K S) {e : Nat} (he : e < Tn T) {ν : Nat → Nat} (hν : ∀ x q, Tup T x = some q → ν q < ν x) : ∀ (m : Nat) (y : Option Nat), (∀ x, y = some x → x < Tn T ∧ ν x + 1 < m) → 0 < m → f_X10_mayEnter_2 (A 50 0) m (some (A 0 e)) (el A y) S = some (b2 ((match y with
    | none => true
    | some x => !TA T e x) && lsB T e)) := by
  intro m
  induction m with
  | zero => intro y _ h0; omega
  | succ m ih =>
    intro y hy _
    have fin : f_X10_mayEnter_2 (A 50 0) (m + 1) (some (A 0 e)) none S = some (b2 (true && lsB T e)) := by
      rw [f_X10_mayEnter_2, if_pos rfl, t.top h, qqx]
      unfold f_X10_mayEnter_40 f_X10_mayEnter_41 lsB
      have h0 : (0 : Nat) < Tn T := by have := hw.n1; omega
      by_cases c : e = 0
      · rw [if_pos (by rw [c]), c]; rfl
      · rw [if_neg (fun z => c ((t.eq h he h0).mp (Option.some.inj z))), t.r3 h he, qqx, c_above hw t h he, qqx, decide_eq_true c]
        cases Tup T e with
        | none => rw [if_pos (el_none A)]; rfl
        | some q => rw [if_neg (fun z => by cases z)]; rfl
    cases y with
    | none => exact fin
    | some x =>
      obtain ⟨hx, hm⟩ := hy x rfl
      show f_X10_mayEnter_2 (A 50 0) (m + 1) (some (A 0 e)) (some (A 0 x)) S = some (b2 (!TA T e x && lsB T e))
      rw [f_X10_mayEnter_2, if_neg (fun z => by cases z)]
      by_cases c : x = e
      · rw [if_pos (by rw [c]), c, TA_s hw he]; rfl
      · rw [if_neg (fun z => c ((t.eq h hx he).mp (Option.some.inj z))), t.r3 h hx, qqx, c_above hw t h hx, qqx, ih (Tup T x) (fun q hq => ⟨(hw.up hq).2, by have := hν x q hq; omega⟩) (by omega), TA_eq hw hx]
        cases Tup T x with
        | none => rw [decide_eq_false c]; rfl
        | some q =>
          show some (b2 (!TA T e q && lsB T e)) = some (b2 (!(decide (x = e) || TA T e q) && lsB T e))
          rw [decide_eq_false c, Bool.false_or]
theorem Tup_rk (hw : Tw T) : ∃ ν : Nat → Nat, (∀ e, e < Tn T → ν e < 30) ∧ ∀ x q, Tup T x = some q → ν q < ν x := by
  obtain ⟨rk, h1⟩ := hw.rkup
  obtain ⟨ν, h2, h3⟩ := qqRk (Tn T) rk
  exact ⟨ν, fun e he => by have := h2 e he; have := hw.n30; omega, fun x q hq => h3 q x (hw.up hq).2 (hw.up hq).1 (h1 x q hq)⟩
theorem c_mayEnter (hw : Tw T) (t : KT T ex K) (h : KA A ex K S) {e p : Nat} (he : e < Tn T) (hp : p < Tn T) : f_X10_mayEnter (A 50 0) (some (A 0 e)) (some (A 0 p)) S = some (b2 (!TA T e p && lsB T e)) := by
  obtain ⟨ν, h1, h2⟩ := Tup_rk hw
  exact c_mayEnter_2 hw t h he h2 4000 (some p) (fun x hx => by cases hx; exact ⟨hp, by have := h1 p hp; omega⟩) (by decide)
theorem r_loose (hw : Tw T) (hr : RT T σ) {e : Nat} (he : e < Tn T) : f_loose (nI e) σ = some (b2 (lsB T e)) := by
  have h30 := hw.n30
  unfold f_loose f_loose_26 f_loose_27 lsB Tup
  by_cases c : e = 0
  · rw [if_pos (by rw [c]; rfl), c]; rfl
  · rw [if_neg (show ¬ nI e = 0 from fun z => c ((nI_eqE (b := 0) (by omega) (by decide)).mp z)), hr.p (by omega), qqx, decide_eq_true c]
    cases hp : Tp T e with
    | some q =>
      have := (hw.p hp).2.1
      rw [if_pos (show (0 : Int32) ≤ qqO (some q) from nI_pos' (by omega))]; rfl
    | none =>
      rw [if_neg (show ¬ (0 : Int32) ≤ qqO none by decide), hr.h (by omega), qqx]
      cases hh : Th T e with
      | some q =>
        have := (hw.h hh).2.1
        rw [if_pos (show (0 : Int32) ≤ qqO (some q) from nI_pos' (by omega))]; rfl
      | none => rw [if_neg (show ¬ (0 : Int32) ≤ qqO none by decide)]; rfl
theorem r_within_2 (hw : Tw T) (hr : RT T σ) {e : Nat} (he : e < Tn T) {ν : Nat → Nat} (hν : ∀ x q, Tup T x = some q → ν q < ν x) : ∀ (m : Nat) (y : Option Nat), (∀ x, y = some x → x < Tn T ∧ ν x + 1 < m) → 0 < m → f_within_2 m (nI e) (qqO y) σ = some (b2 (match y with
    | none => false
    | some x => TA T e x)) := by
  have h30 := hw.n30
  intro m
  induction m with
  | zero => intro y _ h0; omega
  | succ m ih =>
    intro y hy _
    cases y with
    | none =>
      rw [f_within_2, if_pos (show qqO none < 0 by decide)]
      unfold f_within_39 f_within_49
      rw [if_neg (fun z => absurd (nI_pos' (n := e) (by omega)) (by rw [← z]; decide))]; rfl
    | some x =>
      obtain ⟨hx, hm⟩ := hy x rfl
      rw [qqO_some, f_within_2, if_neg (nI_pos (by omega))]
      by_cases c : x = e
      · rw [if_pos (by rw [c])]
        unfold f_within_39 f_within_49
        rw [if_pos (by rw [c]), c]
        show rz 1 = some (b2 (TA T e e))
        rw [TA_s hw he]; rfl
      · rw [if_neg (fun z => c ((nI_eqE (by omega) (by omega)).mp z)), hr.p (by omega), qqx]
        unfold f_within_35
        have ta : TA T e x = (match Tup T x with
          | none => false
          | some q => TA T e q) := by
          rw [TA_eq hw hx]
          cases Tup T x with
          | none => exact decide_eq_false c
          | some q =>
            show (decide (x = e) || TA T e q) = TA T e q
            rw [decide_eq_false c, Bool.false_or]
        show _ = some (b2 (TA T e x))
        rw [ta]
        have hi := ih (Tup T x) (fun q hq => ⟨(hw.up hq).2, by have := hν x q hq; omega⟩) (by omega)
        cases hp : Tp T x with
        | some q =>
          have := (hw.p hp).2.1
          rw [Tup_p hp] at hi ⊢
          rw [if_neg (show ¬ qqO (some q) < 0 from nI_pos (by omega)), qqx]
          exact hi
        | none =>
          have e1 : Tup T x = Th T x := by unfold Tup; rw [hp]
          rw [e1] at hi ⊢
          rw [if_pos (show qqO none < 0 by decide), hr.h (by omega), qqx]
          exact hi
theorem r_within (hw : Tw T) (hr : RT T σ) {e p : Nat} (he : e < Tn T) (hp : p < Tn T) : f_within (nI p) (nI e) σ = some (b2 (TA T e p)) := by
  obtain ⟨ν, h1, h2⟩ := Tup_rk hw
  exact r_within_2 hw hr he h2 4000 (some p) (fun x hx => by cases hx; exact ⟨hp, by have := h1 p hp; omega⟩) (by decide)
theorem c_count_4 (hw : Tw T) (t : KT T ex K) (h : KA A ex K S) : ∀ (l : List Nat) (m c : Nat), (∀ y ∈ l, y < Tn T) → sibL T l → l.length < m → f_X10_countFrom_4 (A 50 0) m (nI c) (el A l.head?) S = some (nI (c + l.length)) := by
  intro l
  induction l with
  | nil =>
    intro m c _ _ hm
    obtain ⟨m, rfl⟩ : ∃ m', m = m' + 1 := ⟨m - 1, by omega⟩
    rw [f_X10_countFrom_4, if_pos (show el A ([] : List Nat).head? = none from rfl)]; rfl
  | cons y l ih =>
    intro m c hl hs hm
    obtain ⟨m, rfl⟩ : ∃ m', m = m' + 1 := ⟨m - 1, by omega⟩
    have e1 : (y :: l).length = l.length + 1 := rfl
    obtain ⟨s1, s2⟩ := sibL_tail hs
    show f_X10_countFrom_4 (A 50 0) (m + 1) (nI c) (some (A 0 y)) S = _
    rw [f_X10_countFrom_4, if_neg (fun z => by cases z), t.g12 h (hl y List.mem_cons_self), qqx, s2, nI_1, ih m (c + 1) (fun z hz => hl z (List.mem_cons_of_mem _ hz)) s1 (by omega), e1]
    rw [show c + 1 + l.length = c + (l.length + 1) by omega]
theorem c_countFrom (hw : Tw T) (t : KT T ex K) (h : KA A ex K S) {l : List Nat} (hl : ∀ y ∈ l, y < Tn T) (hs : sibL T l) (hm : l.length < 4000) : f_X10_countFrom (A 50 0) (el A l.head?) S = some (nI l.length) := by
  have := c_count_4 hw t h l 4000 0 hl hs hm
  rw [Nat.zero_add] at this
  exact this
end TAA
