def bt (x : Int32) (i : Nat) : Bool := x.toBitVec.getLsbD i
theorem b_ext {x y : Int32} (h : ∀ i, i < 32 → bt x i = bt y i) : x = y := Int32.toBitVec_inj.mp (BitVec.eq_of_getLsbD_eq (fun i hi => h i hi))
theorem b_or (x y : Int32) (i : Nat) : bt (x ||| y) i = (bt x i || bt y i) := by unfold bt; rw [Int32.toBitVec_or, BitVec.getLsbD_or]
theorem b_and (x y : Int32) (i : Nat) : bt (x &&& y) i = (bt x i && bt y i) := by unfold bt; rw [Int32.toBitVec_and, BitVec.getLsbD_and]
theorem b_xor (x y : Int32) (i : Nat) : bt (x ^^^ y) i = (bt x i ^^ bt y i) := by unfold bt; rw [Int32.toBitVec_xor, BitVec.getLsbD_xor]
theorem b_big {x : Int32} {i : Nat} (h : 32 ≤ i) : bt x i = false := BitVec.getLsbD_of_ge _ _ h
theorem b_not (x : Int32) {i : Nat} (hi : i < 32) : bt (~~~x) i = !bt x i := by unfold bt; rw [Int32.toBitVec_not, BitVec.getLsbD_not]; simp [hi]
theorem b_0 (i : Nat) : bt 0 i = false := BitVec.getLsbD_zero
theorem b_m1 : ∀ i, i < 32 → bt (-1) i = true := by decide +kernel
theorem s_l : ∀ n, n < 32 → ((nI n &&& 31).toBitVec.smod 32).toNat = n := by decide +kernel
theorem b_shl (n : Nat) (hn : n < 32) (x : Int32) {i : Nat} (hi : i < 32) : bt (x <<< (nI n &&& 31)) i = (decide (n ≤ i) && bt x (i - n)) := by
  unfold bt
  rw [Int32.toBitVec_shiftLeft]
  show (x.toBitVec <<< ((nI n &&& 31).toBitVec.smod 32).toNat).getLsbD i = _
  rw [s_l n hn, BitVec.getLsbD_shiftLeft]
  rcases Nat.lt_or_ge i n with h | h
  · simp [h, Nat.not_le.mpr h]
  · simp [hi, h, Nat.not_lt.mpr h]
theorem b_sshr (n : Nat) (hn : n < 32) (x : Int32) {i : Nat} (hi : i < 32) : bt (x >>> (nI n &&& 31)) i = if n + i < 32 then bt x (n + i) else bt x 31 := by
  unfold bt
  rw [Int32.toBitVec_shiftRight]
  show (x.toBitVec.sshiftRight ((nI n &&& 31).toBitVec.smod 32).toNat).getLsbD i = _
  rw [s_l n hn, BitVec.getLsbD_sshiftRight, BitVec.msb_eq_getLsbD_last]
  simp [hi]
theorem b_1 : ∀ i, i < 32 → bt 1 i = decide (i = 0) := by decide +kernel
def b2 (b : Bool) : Int32 := if b then 1 else 0
theorem b2_t : b2 true = 1 := rfl
theorem b2_f : b2 false = 0 := rfl
theorem b2_0 (b : Bool) : (b2 b = 0) = (b = false) := by cases b <;> decide
theorem b2_1 (b : Bool) : (b2 b = 1) = (b = true) := by cases b <;> decide
theorem b2_rz (b : Bool) : rz (b2 b) = some (b2 b) := by cases b <;> rfl
theorem b2_01 (b : Bool) : b2 b = 0 ∨ b2 b = 1 := by cases b; exact Or.inl rfl; exact Or.inr rfl
theorem b2_inj {a b : Bool} (h : b2 a = b2 b) : a = b := by revert h; cases a <;> cases b <;> decide
theorem b_ask (x : Int32) {k : Nat} (hk : k < 32) : (x >>> (nI k &&& 31)) &&& 1 = b2 (bt x k) := by
  apply b_ext
  intro i hi
  rw [b_and, b_1 i hi, b_sshr k hk x hi]
  by_cases h : i = 0
  · subst h
    simp only [Nat.add_zero, hk, if_true, decide_true, Bool.and_true]
    cases bt x k
    · rfl
    · rfl
  · rw [decide_eq_false h, Bool.and_false]
    cases bt x k
    · exact (b_0 i).symm
    · exact (show bt 1 i = false by rw [b_1 i hi, decide_eq_false h]).symm
theorem b_one {k : Nat} (hk : k < 32) {i : Nat} (hi : i < 32) : bt ((1 : Int32) <<< (nI k &&& 31)) i = decide (i = k) := by
  rw [b_shl k hk 1 hi]
  by_cases h : k ≤ i
  · rw [decide_eq_true h, Bool.true_and, b_1 _ (by omega)]
    by_cases h2 : i = k
    · subst h2; simp
    · rw [decide_eq_false (by omega), decide_eq_false h2]
  · rw [decide_eq_false h, Bool.false_and, decide_eq_false (by omega)]
theorem qqNeg {x : Int32} (hx : x = -1) : x < 0 := by subst hx; decide
def qqO (o : Option Nat) : Int32 := match o with
  | none => -1
  | some k => nI k
theorem qqO_neg {o : Option Nat} (h : ∀ k, o = some k → k < 2 ^ 31) : (qqO o < 0) = (o = none) := by
  cases o with
  | none => exact eq_true (by decide) |>.trans (eq_true rfl).symm
  | some k => 
    have h1 : ¬ qqO (some k) < 0 := nI_pos (h k rfl)
    simp [h1]
theorem qqO_none : qqO none = -1 := rfl
theorem qqO_some (k : Nat) : qqO (some k) = nI k := rfl
def qqM (f : Nat → Bool) : Nat → Int32
  | 0 => 0
  | n + 1 => qqM f n ||| (if f n then (1 : Int32) <<< (nI n &&& 31) else 0)
theorem qqM_bt (f : Nat → Bool) : ∀ n, n ≤ 32 → ∀ i, i < 32 → bt (qqM f n) i = (decide (i < n) && f i) := by
  intro n
  induction n with
  | zero => intro _ i _; simp [qqM, b_0]
  | succ n ih =>
    intro hn i hi
    show bt (qqM f n ||| _) i = _
    rw [b_or, ih (by omega) i hi]
    by_cases hf : f n = true
    · rw [if_pos hf, b_one (by omega) hi]
      by_cases h : i = n
      · subst h; simp [hf]
      · rw [decide_eq_false h, Bool.or_false]
        by_cases h2 : i < n
        · simp [h2, Nat.lt_succ_of_lt h2]
        · simp [h2, show ¬ i < n + 1 by omega]
    · rw [if_neg hf, b_0, Bool.or_false]
      by_cases h : i = n
      · subst h; simp [hf]
      · by_cases h2 : i < n
        · simp [h2, Nat.lt_succ_of_lt h2]
        · simp [h2, show ¬ i < n + 1 by omega]
theorem qqM_congr {f g : Nat → Bool} {n : Nat} (h : ∀ i, i < n → f i = g i) : qqM f n = qqM g n := by
  induction n with
  | zero => rfl
  | succ n ih =>
    show qqM f n ||| _ = qqM g n ||| _
    rw [ih (fun i hi => h i (by omega)), h n (by omega)]
theorem qqM_of {x : Int32} {n : Nat} (hn : n ≤ 32) {f : Nat → Bool} (h : ∀ i, i < n → bt x i = f i) (h2 : ∀ i, n ≤ i → i < 32 → bt x i = false) : x = qqM f n := by
  apply b_ext
  intro i hi
  rw [qqM_bt f n hn i hi]
  by_cases h3 : i < n
  · rw [h i h3]; simp [h3]
  · rw [h2 i (by omega) hi]; simp [h3]
theorem qqb {α β : Type} (a : α) (f : α → Option β) : (some a).bind f = f a := rfl
theorem qqe {α β : Type} {x : Option α} {a : α} {f : α → Option β} (h : x = some a) : x.bind f = f a := by rw [h]; rfl
theorem qqif {α : Type} {c : Prop} [Decidable c] (h : c) (a b : α) : (if c then a else b) = a := if_pos h
theorem qqPig : ∀ (n : Nat) (l : List Nat), l.Nodup → (∀ x ∈ l, x < n) → l.length ≤ n := by
  intro n
  induction n with
  | zero =>
    intro l _ h
    cases l with
    | nil => exact Nat.le_refl _
    | cons a as => exact absurd (h a List.mem_cons_self) (Nat.not_lt_zero _)
  | succ n ih =>
    intro l hd h
    have h1 := ih (l.erase n) (hd.erase n) (fun x hx => by
      have h2 := (hd.mem_erase_iff).mp hx
      have h3 := h x h2.2
      have h4 := h2.1
      omega)
    by_cases hm : n ∈ l
    · rw [List.length_erase_of_mem hm] at h1
      omega
    · rw [List.erase_of_not_mem hm] at h1
      omega
theorem qqFl {l : List Nat} {P Q : Nat → Bool} (h : ∀ x ∈ l, P x = true → Q x = true) : (l.filter P).length ≤ (l.filter Q).length := by
  induction l with
  | nil => exact Nat.le_refl _
  | cons a as ih =>
    have h1 := ih (fun x hx => h x (List.mem_cons_of_mem _ hx))
    by_cases hp : P a = true
    · rw [List.filter_cons_of_pos hp, List.filter_cons_of_pos (h a List.mem_cons_self hp)]
      simp only [List.length_cons]
      omega
    · rw [List.filter_cons_of_neg hp]
      by_cases hq : Q a = true
      · rw [List.filter_cons_of_pos hq]
        simp only [List.length_cons]
        omega
      · rw [List.filter_cons_of_neg hq]
        exact h1
theorem qqFlt {l : List Nat} {P Q : Nat → Bool} (h : ∀ x ∈ l, P x = true → Q x = true) {y : Nat} (hy : y ∈ l) (hp : P y = false) (hq : Q y = true) : (l.filter P).length < (l.filter Q).length := by
  induction l with
  | nil => cases hy
  | cons a as ih =>
    have h0 : ∀ x ∈ as, P x = true → Q x = true := fun x hx => h x (List.mem_cons_of_mem _ hx)
    rcases List.mem_cons.mp hy with rfl | hy
    · rw [List.filter_cons_of_neg (by simp [hp]), List.filter_cons_of_pos hq]
      have := qqFl h0
      simp only [List.length_cons]
      omega
    · have h1 := ih h0 hy
      by_cases hp : P a = true
      · rw [List.filter_cons_of_pos hp, List.filter_cons_of_pos (h a List.mem_cons_self hp)]
        simp only [List.length_cons]
        omega
      · rw [List.filter_cons_of_neg hp]
        by_cases hq : Q a = true
        · rw [List.filter_cons_of_pos hq]
          simp only [List.length_cons]
          omega
        · rw [List.filter_cons_of_neg hq]
          exact h1
theorem qqRk (n : Nat) (μ : Nat → Nat) : ∃ ν : Nat → Nat, (∀ e, e < n → ν e < n) ∧ ∀ a b, a < n → b < n → μ a < μ b → ν a < ν b := by
  refine ⟨fun e => ((List.range n).filter (fun x => decide (μ x < μ e))).length, ?_, ?_⟩
  · intro e he
    have h := qqFlt (l := List.range n) (P := fun x => decide (μ x < μ e)) (Q := fun _ => true) (fun _ _ _ => rfl) (List.mem_range.mpr he) (by simp) rfl
    have h2 : ((List.range n).filter (fun _ => true)).length ≤ (List.range n).length := List.length_filter_le _ _
    rw [List.length_range] at h2
    show ((List.range n).filter (fun x => decide (μ x < μ e))).length < n
    omega
  · intro a b ha hb hab
    refine qqFlt (fun x _ hx => ?_) (List.mem_range.mpr ha) (by simp) (by simp [hab])
    simp only [decide_eq_true_eq] at hx ⊢
    omega
def qqIt {α : Type} (fin : Nat → α) (f : Nat → α → α) (st : Nat → Option Nat) : Nat → Nat → α
  | 0, e => fin e
  | k + 1, e => match st e with
    | none => fin e
    | some q => f e (qqIt fin f st k q)
theorem qqIt_stable {α : Type} {fin : Nat → α} {f : Nat → α → α} {st : Nat → Option Nat} {ν : Nat → Nat} {n : Nat} (h : ∀ e q, e < n → st e = some q → q < n ∧ ν q < ν e) : ∀ k e, e < n → ν e ≤ k → qqIt fin f st k e = qqIt fin f st (k + 1) e := by
  intro k
  induction k with
  | zero =>
    intro e he hk
    show fin e = match st e with
      | none => fin e
      | some q => f e (fin q)
    cases hs : st e with
    | none => rfl
    | some q => exact absurd (h e q he hs).2 (by omega)
  | succ k ih =>
    intro e he hk
    show (match st e with
      | none => fin e
      | some q => f e (qqIt fin f st k q)) = match st e with
      | none => fin e
      | some q => f e (qqIt fin f st (k + 1) q)
    cases hs : st e with
    | none => rfl
    | some q => 
      have := (h e q he hs)
      exact congrArg (f e) (ih q this.1 (by omega))
theorem qqIt_eq {α : Type} {fin : Nat → α} {f : Nat → α → α} {st : Nat → Option Nat} {μ : Nat → Nat} {n : Nat} (hn : n ≤ 30) (h : ∀ e q, e < n → st e = some q → q < n ∧ μ q < μ e) {e : Nat} (he : e < n) : qqIt fin f st 30 e = match st e with
    | none => fin e
    | some q => f e (qqIt fin f st 30 q) := by
  obtain ⟨ν, h1, h2⟩ := qqRk n μ
  show (match st e with
    | none => fin e
    | some q => f e (qqIt fin f st 29 q)) = _
  cases hs : st e with
  | none => rfl
  | some q =>
    have hq := h e q he hs
    refine congrArg (f e) (qqIt_stable (n := n) (ν := ν) (fun a b ha hb => ⟨(h a b ha hb).1, h2 b a (h a b ha hb).1 ha (h a b ha hb).2⟩) 29 q hq.1 ?_)
    have := h1 q hq.1
    omega
theorem qqInd {st : Nat → Option Nat} {μ : Nat → Nat} {P : Nat → Prop} (h : ∀ e, (∀ q, st e = some q → μ q < μ e → P q) → P e) (e : Nat) : P e := by
  have : ∀ m e, μ e < m → P e := by
    intro m
    induction m with
    | zero => intro e he; omega
    | succ m ih => intro e he; exact h e (fun q _ hq => ih q (by omega))
  exact this (μ e + 1) e (by omega)
