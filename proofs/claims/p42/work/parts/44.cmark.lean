section CM
variable {T : qqT} {A : kA} {ex : Nat → Nat → Prop} {K : kS} {S : cS}
def KR (T : qqT) (K : kS) : Prop := ∃ ρ : Nat → Nat, ∀ e, e < Tn T → K.2 0 e 17 = none ∨ ∃ f, K.2 0 e 17 = some (0, f) ∧ f < Tn T ∧ ρ f < ρ e
theorem KR.rk (h : KR T K) : ∃ ρ : Nat → Nat, (∀ e, e < Tn T → ρ e < Tn T) ∧ ∀ e, e < Tn T → K.2 0 e 17 = none ∨ ∃ f, K.2 0 e 17 = some (0, f) ∧ f < Tn T ∧ ρ f < ρ e := by
  obtain ⟨ρ, h1⟩ := h
  obtain ⟨ν, h2, h3⟩ := qqRk (Tn T) ρ
  exact ⟨ν, h2, fun e he => (h1 e he).elim Or.inl (fun ⟨f, a, b, c⟩ => Or.inr ⟨f, a, b, h3 f e b he c⟩)⟩
def BL (T : qqT) (x : Nat) (m : Int32) : Prop := ∀ e, e < 32 → bt m e = true → e < Tn T ∧ TB T x e = true
theorem BL_add (hw : Tw T) {x y : Nat} {s : Int32} (h : BL T x s) (hy : y < Tn T) (hb : TB T x y = true) : BL T x (s ||| ((1 : Int32) <<< (nI y &&& 31))) := by
  have h30 := hw.n30
  intro e he h1
  rw [b_or, b_one (by omega) he] at h1
  by_cases hey : e = y
  · rw [hey]; exact ⟨hy, hb⟩
  · rw [decide_eq_false hey, Bool.or_false] at h1
    exact h e he h1
theorem g17 (t : KT T ex K) (h : KA A ex K S) {e : Nat} (he : e < Tn T) {y : Option Nat} (hy : K.2 0 e 17 = ro 0 y) : gR S (some (A 0 e)) 3 17 = some (el A y) := by
  rw [h.R 0 3 (t.E he (by decide)) rfl, hy, el_kp]
theorem g16 (t : KT T ex K) (h : KA A ex K S) (k16 : K16 T K) {e : Nat} (he : e < Tn T) : gR S (some (A 0 e)) 3 16 = some (el A (Tsp T e)) := by
  rw [h.R 0 3 (t.E he (by decide)) rfl, k16 e he, el_kp]
theorem c_below_s (hw : Tw T) (t : KT T ex K) (h : KA A ex K S) (k16 : K16 T K) {x y : Nat} (hx : x < Tn T) (hy : y < Tn T) {s : Int32} {m : Nat} {b : Bool} (hb : b = match Tsp T y with
    | none => false
    | some z => (z == x) || bt s z) : f_X10_below_7 (A 50 0) (m + 1) (some (A 0 x)) s (some (A 0 y)) S = (gR S (some (A 0 y)) 3 17).bind (fun v1 => f_X10_below_7 (A 50 0) m (some (A 0 x)) (if b then s ||| ((1 : Int32) <<< (nI y &&& 31)) else s) v1 S) := by
  have h30 := hw.n30
  rw [f_X10_below_7, if_neg (fun z => by cases z), g16 t h k16 hy]
  simp only [qqb]
  have e40 : ∀ k7, f_X10_below_40 k7 (A 50 0) (some (A 0 x)) s (some (A 0 y)) S = f_X10_below_49 k7 (A 50 0) (some (A 0 x)) (s ||| ((1 : Int32) <<< (nI y &&& 31))) (some (A 0 y)) S := by
    intro k7
    unfold f_X10_below_40
    rw [t.gn h hy]
    rfl
  cases hs : Tsp T y with
  | none =>
    rw [hs] at hb
    have hb : b = false := hb
    subst hb
    rw [if_pos (el_none A)]
    rfl
  | some z =>
    have hz := (Tsp_cases hw hs).2.1
    rw [hs] at hb
    have hb : b = ((z == x) || bt s z) := hb
    have hzx : (el A (some z) = some (A 0 x)) = (z = x) := by rw [el_some, Option.some.injEq]; exact t.eq h hz hx
    rw [if_neg (show ¬ el A (some z) = none from fun z => by cases z)]
    by_cases hc : z = x
    · have hbt : b = true := by rw [hb]; simp [hc]
      subst hbt
      rw [if_pos (hzx.mpr hc), e40]
      rfl
    · have hzx2 : (z == x) = false := by simpa using hc
      rw [hzx2, Bool.false_or] at hb
      rw [if_neg (fun q => hc (hzx.mp q)), el_some, t.gn h hz]
      simp only [qqb]
      rw [b_ask s (by omega), ← hb, b2_i0]
      cases b with
      | true => rw [if_pos rfl, e40]; rfl
      | false => rw [if_neg (by decide)]; rfl
theorem c_below_7 (hw : Tw T) (t : KT T ex K) (h : KA A ex K S) (k16 : K16 T K) {x : Nat} (hx : x < Tn T) {ρ : Nat → Nat} (hρ : ∀ e, e < Tn T → K.2 0 e 17 = none ∨ ∃ f, K.2 0 e 17 = some (0, f) ∧ f < Tn T ∧ ρ f < ρ e) : ∀ (m : Nat) (y : Option Nat) (s : Int32), (∀ e, y = some e → e < Tn T ∧ ρ e + 1 < m) → 0 < m → BL T x s → ∃ s', f_X10_below_7 (A 50 0) m (some (A 0 x)) s (el A y) S = some s' ∧ BL T x s' := by
  have h30 := hw.n30
  intro m
  induction m with
  | zero => intro y s hy hm; omega
  | succ m ih =>
    intro y s hy hm hs
    cases y with
    | none =>
      rw [f_X10_below_7, if_pos (el_none A)]
      exact ⟨s, rfl, hs⟩
    | some y =>
      obtain ⟨hyn, hym⟩ := hy y rfl
      rw [el_some, c_below_s hw t h k16 hx hyn rfl]
      have hbl : BL T x (if (match Tsp T y with
          | none => false
          | some z => (z == x) || bt s z) then s ||| ((1 : Int32) <<< (nI y &&& 31)) else s) := by
        by_cases hb : (match Tsp T y with
          | none => false
          | some z => (z == x) || bt s z) = true
        · rw [if_pos hb]
          refine BL_add hw hs hyn ?_
          rw [TB_eq hw hyn]
          cases hz : Tsp T y with
          | none => rw [hz] at hb; cases hb
          | some z =>
            rw [hz] at hb
            have hb : ((z == x) || bt s z) = true := hb
            have hzn := (Tsp_cases hw hz).2.1
            by_cases hc : (z == x) = true
            · simp only [hc, Bool.true_or]
            · have hc : (z == x) = false := by simpa using hc
              rw [hc, Bool.false_or] at hb
              have := (hs z (by omega) hb).2
              simp only [this, Bool.or_true]
        · rw [if_neg hb]; exact hs
      rcases hρ y hyn with h1 | ⟨f, h1, h2, h3⟩
      · rw [g17 t h hyn (y := none) h1]
        exact ih none _ (fun e he => by cases he) (by omega) hbl
      · rw [g17 t h hyn (y := some f) h1]
        exact ih (some f) _ (fun e he => by cases he; exact ⟨h2, by omega⟩) (by omega) hbl
theorem TB_after (hw : Tw T) {A0 R : List Nat} {x : Nat} (ho : Tord T = A0 ++ x :: R) : ∀ e, e < Tn T → TB T x e = true → e ∉ A0 := by
  intro e
  refine qqInd (st := Tsp T) (μ := fun e => (TC T e).1) (P := fun e => e < Tn T → TB T x e = true → e ∉ A0) ?_ e
  intro e ih he hb hA
  have hnd := Tord_nodup hw
  rw [ho] at hnd
  obtain ⟨U, V, rfl⟩ := List.append_of_mem hA
  rw [TB_eq hw he] at hb
  cases hs : Tsp T e with
  | none => rw [hs] at hb; cases hb
  | some z =>
    rw [hs] at hb
    have hb : ((z == x) || TB T x z) = true := hb
    have he0 : e ≠ 0 := by intro h0; subst h0; rw [Tsp_0 hw] at hs; cases hs
    obtain ⟨y, hy, hsy⟩ := Tord_pre hw (A := U) (B := V ++ x :: R) (x := e) (by rw [ho]; simp) he0
    rw [hs] at hsy
    cases hsy
    by_cases hzx : z = x
    · subst hzx
      exact (List.nodup_append.mp hnd).2.2 z (List.mem_append_left _ hy) z List.mem_cons_self rfl
    · have : (z == x) = false := by simpa using hzx
      rw [this, Bool.false_or] at hb
      exact ih z hs (Tsp_m hw hs) (Tsp_cases hw hs).2.1 hb (List.mem_append_left _ hy)
theorem chS_at : ∀ {L : List Nat} {a : Nat} {A0 R : List Nat} {x : Nat}, chS K a L → a :: L = A0 ++ x :: R → chS K x R := by
  intro L
  induction L with
  | nil =>
    intro a A0 R x h he
    cases A0 with
    | nil => injection he with h1 h2; subst h1; subst h2; exact h
    | cons b A0 => injection he with h1 h2; exact absurd h2 (by simp)
  | cons z L ih =>
    intro a A0 R x h he
    cases A0 with
    | nil => injection he with h1 h2; subst h1; subst h2; exact h
    | cons b A0 => injection he with h1 h2; exact ih h.2 h2
theorem KL.at (hw : Tw T) (l : KL T K) {A0 R : List Nat} {x : Nat} (ho : Tord T = A0 ++ x :: R) : chS K x R := by
  obtain ⟨r, hr⟩ := Tord_head hw
  have := l.2.2
  rw [hr] at this
  exact chS_at this (by rw [← hr]; exact ho)
theorem chS_ro {x : Nat} {R : List Nat} (h : chS K x R) : K.2 0 x 17 = ro 0 R.head? := by
  cases R with
  | nil => exact h
  | cons y r => exact h.1
theorem c_below_L (hw : Tw T) (t : KT T ex K) (h : KA A ex K S) (k16 : K16 T K) {x : Nat} (hx : x < Tn T) {A0 : List Nat} : ∀ (L D : List Nat) (m : Nat) (s : Int32), Tord T = A0 ++ x :: (D ++ L) → (∀ y r, L = y :: r → chS K y r) → L.length < m → (∀ e, e < 32 → bt s e = (decide (e ∈ D) && TB T x e)) → ∃ s', f_X10_below_7 (A 50 0) m (some (A 0 x)) s (el A L.head?) S = some s' ∧ ∀ e, e < 32 → bt s' e = (decide (e ∈ D ++ L) && TB T x e) := by
  have h30 := hw.n30
  intro L
  induction L with
  | nil =>
    intro D m s ho hc hm hs
    obtain ⟨m, rfl⟩ : ∃ m', m = m' + 1 := ⟨m - 1, by omega⟩
    rw [f_X10_below_7, if_pos (show el A ([] : List Nat).head? = none from rfl)]
    exact ⟨s, rfl, fun e he => by rw [List.append_nil]; exact hs e he⟩
  | cons y L ih =>
    intro D m s ho hc hm hs
    obtain ⟨m, rfl⟩ : ∃ m', m = m' + 1 := ⟨m - 1, by omega⟩
    simp only [List.length_cons] at hm
    have hyo : y ∈ Tord T := by rw [ho]; simp
    have hyn := (Tord_is hw hyo).1
    have hnd := Tord_nodup hw
    obtain ⟨r0, hr0⟩ := Tord_head hw
    have hy0 : y ≠ 0 := by
      intro h0
      subst h0
      rw [ho] at hnd
      cases A0 with
      | nil =>
        have : x = 0 := by rw [ho] at hr0; injection hr0
        subst this
        exact (List.nodup_cons.mp hnd).1 (by simp)
      | cons a A0 =>
        have : a = 0 := by rw [ho] at hr0; injection hr0
        subst this
        exact (List.nodup_cons.mp hnd).1 (by simp)
    obtain ⟨z, hz, hsz⟩ := Tord_pre hw (A := A0 ++ x :: D) (B := L) (x := y) (by rw [ho]; simp) hy0
    have hzn := (Tsp_cases hw hsz).2.1
    have hb : TB T x y = match Tsp T y with
        | none => false
        | some z => (z == x) || bt s z := by
      rw [TB_eq hw hyn, hsz]
      show ((z == x) || TB T x z) = ((z == x) || bt s z)
      by_cases hzx : z = x
      · simp [hzx]
      · have : (z == x) = false := by simpa using hzx
        rw [this, Bool.false_or, Bool.false_or, hs z (by omega)]
        by_cases hzD : z ∈ D
        · simp [hzD]
        · have hzA : z ∈ A0 := by
            rcases List.mem_append.mp hz with q | q
            · exact q
            · rcases List.mem_cons.mp q with q | q
              · exact absurd q hzx
              · exact absurd q hzD
          have : TB T x z = false := by
            cases hq : TB T x z with
            | false => rfl
            | true => exact absurd hzA (TB_after hw ho z hzn hq)
          rw [this, Bool.and_false]
    rw [show el A (y :: L).head? = some (A 0 y) from rfl, c_below_s hw t h k16 hx hyn hb, g17 t h hyn (chS_ro (hc y L rfl))]
    simp only [qqb]
    obtain ⟨s', e1, e2⟩ := ih (D ++ [y]) m (if TB T x y = true then s ||| ((1 : Int32) <<< (nI y &&& 31)) else s) (by rw [ho]; simp) (fun w r hr => by
      have := hc y L rfl
      rw [hr] at this
      exact this.2) (by omega) (fun e he => by
      by_cases hb9 : TB T x y = true
      · rw [if_pos hb9, b_or, b_one (by omega) he, hs e he]
        by_cases hey : e = y
        · subst hey; simp [hb9]
        · simp [hey]
      · rw [if_neg hb9, hs e he]
        by_cases hey : e = y
        · subst hey; simp [hb9]
        · simp [hey])
    exact ⟨s', e1, fun e he => by rw [e2 e he, List.append_assoc]; rfl⟩
theorem c_below (hw : Tw T) (t : KT T ex K) (h : KA A ex K S) (l : KL T K) (kr : KR T K) {x : Nat} (hx : x < Tn T) : ∃ s, f_X10_below (A 50 0) (some (A 0 x)) S = some s ∧ ∀ e, e < Tn T → TD T e = true → bt s e = TB T x e := by
  have h30 := hw.n30
  have k16 : K16 T K := fun e he => (l.1 e he).2.2.1
  unfold f_X10_below
  by_cases hd : TD T x = true
  · obtain ⟨A0, R, ho⟩ := List.append_of_mem (Tord_mem hw x hx hd)
    have hc := l.at hw ho
    rw [g17 t h hx (chS_ro hc)]
    simp only [qqb]
    obtain ⟨s', e1, e2⟩ := c_below_L (A0 := A0) hw t h k16 hx R [] 4000 0 ho (fun y r hr => by rw [hr] at hc; exact hc.2) (by have := Tord_len hw; rw [ho] at this; simp only [List.length_append, List.length_cons] at this; omega) (fun e he => by rw [b_0]; simp)
    refine ⟨s', e1, fun e he hde => ?_⟩
    rw [e2 e (by omega)]
    by_cases hb : TB T x e = true
    · have hm := Tord_mem hw e he hde
      have hn := TB_after hw ho e he hb
      rw [ho] at hm
      have : e ∈ R := by
        rcases List.mem_append.mp hm with q | q
        · exact absurd q hn
        · rcases List.mem_cons.mp q with q | q
          · exfalso
            subst q
            have hself : ∀ e, e < Tn T → ∀ y, TB T y e = true → (TC T y).1 < (TC T e).1 := by
              intro e
              refine qqInd (st := Tsp T) (μ := fun e => (TC T e).1) (P := fun e => e < Tn T → ∀ y, TB T y e = true → (TC T y).1 < (TC T e).1) ?_ e
              intro e ih he y hb
              rw [TB_eq hw he] at hb
              cases hs : Tsp T e with
              | none => rw [hs] at hb; cases hb
              | some z =>
                rw [hs] at hb
                have hb : ((z == y) || TB T y z) = true := hb
                have hm := Tsp_m hw hs
                by_cases hzy : z = y
                · rw [← hzy]; exact hm
                · have : (z == y) = false := by simpa using hzy
                  rw [this, Bool.false_or] at hb
                  have := ih z hs hm (Tsp_cases hw hs).2.1 y hb
                  omega
            have := hself e he e hb
            omega
          · exact q
      simp [this, hb]
    · have : TB T x e = false := by simpa using hb
      rw [this, Bool.and_false]
  · have hd : TD T x = false := by simpa using hd
    obtain ⟨ρ, r1, r2⟩ := kr.rk
    have hn : ∃ y, K.2 0 x 17 = ro 0 y ∧ ∀ e, y = some e → e < Tn T ∧ ρ e + 1 < 4000 := by
      rcases r2 x hx with h1 | ⟨f, h1, h2, h3⟩
      · exact ⟨none, h1, fun e he => by cases he⟩
      · exact ⟨some f, h1, fun e he => by cases he; exact ⟨h2, by have := r1 f h2; omega⟩⟩
    obtain ⟨y, e1, e2⟩ := hn
    rw [g17 t h hx e1]
    simp only [qqb]
    obtain ⟨s', e3, e4⟩ := c_below_7 hw t h k16 hx r2 4000 y 0 e2 (by omega) (fun e he hb => by rw [b_0] at hb; cases hb)
    refine ⟨s', e3, fun e he hde => ?_⟩
    have hno : TB T x e = false := by
      cases hb : TB T x e with
      | false => rfl
      | true => have := TB_D hw e he hb; rw [hde, hd] at this; cases this
    rw [hno]
    cases hq : bt s' e with
    | false => rfl
    | true => have := (e4 e (by omega) hq).2; rw [hno] at this; cases this
end CM
