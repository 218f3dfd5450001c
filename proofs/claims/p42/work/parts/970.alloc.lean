def exU (ex : Nat → Nat → Prop) (k i : Nat) : Nat → Nat → Prop := fun a b => ex a b ∨ (a = k ∧ b = i)
def kNw (K : kS) (k i : Nat) : kS := (fun a b => if a = k ∧ b = i then fun _ => 0 else K.1 a b, fun a b => if a = k ∧ b = i then fun _ => none else K.2 a b)
section ALC
variable {A A' : kA} {ex : Nat → Nat → Prop} {K K' : kS} {S S' : cS}
theorem KA.chA (h : KA A ex K S) (hA : ∀ a b, ex a b → A' a b = A a b) : KA A' ex K S := by
  refine ⟨fun k i hx => ?_, fun k i k' i' hx hx' e => h.2.1 _ _ _ _ hx hx' (by rw [← hA _ _ hx, ← hA _ _ hx']; exact e), h.2.2⟩
  obtain ⟨h1, h2, h3⟩ := h.1 k i hx
  have e1 : (fun j => Option.map (kp A') (K.2 k i j)) = fun j => Option.map (kp A) (K.2 k i j) := by
    funext j
    cases hr : K.2 k i j with
    | none => rfl
    | some r => exact congrArg some (hA r.1 r.2 (h.2.2 k i j r hx hr))
  rw [hA k i hx, e1]
  exact ⟨h1, h2, h3⟩
theorem KA.cex {ex' : Nat → Nat → Prop} (h : KA A ex K S) (he : ∀ a b, ex a b ↔ ex' a b) : KA A ex' K S := by
  have : ex = ex' := funext fun a => funext fun b => propext (he a b)
  rw [← this]; exact h
theorem KA.al (h : KA A ex K S) {k i t N : Nat} (ht : kT k = (t, N)) (hn : ¬ ex k i) (ha : A k i = S.2) (h0 : S.2 ≠ 0) : KA A (exU ex k i) (kNw K k i) (na S t N) := by
  refine ⟨fun a b hab => ?_, fun a b a' b' hab hab' he => ?_, fun a b j r hab hr => ?_⟩
  · by_cases hk : a = k ∧ b = i
    · obtain ⟨rfl, rfl⟩ := hk
      have e1 : (kNw K a b).1 a b = fun _ => 0 := if_pos ⟨rfl, rfl⟩
      have e2 : (kNw K a b).2 a b = fun _ => none := if_pos ⟨rfl, rfl⟩
      rw [e1, e2, ha, ht]
      exact ⟨if_pos rfl, Nat.lt_succ_self _, fun _ => h0⟩
    · have hab' : ex a b := hab.resolve_right hk
      obtain ⟨h1, h2, h3⟩ := h.1 a b hab'
      have e1 : (kNw K k i).1 a b = K.1 a b := if_neg hk
      have e2 : (kNw K k i).2 a b = K.2 a b := if_neg hk
      rw [e1, e2]
      refine ⟨?_, Nat.lt_succ_of_lt h2, h3⟩
      show (if A a b = S.2 then _ else S.1 (A a b)) = _
      rw [if_neg (by omega), h1]
  · by_cases hk : a = k ∧ b = i
    · by_cases hk' : a' = k ∧ b' = i
      · exact ⟨hk.1.trans hk'.1.symm, hk.2.trans hk'.2.symm⟩
      · have := (h.1 a' b' (hab'.resolve_right hk')).2.1
        rw [← he, hk.1, hk.2, ha] at this
        omega
    · by_cases hk' : a' = k ∧ b' = i
      · have := (h.1 a b (hab.resolve_right hk)).2.1
        rw [he, hk'.1, hk'.2, ha] at this
        omega
      · exact h.2.1 a b a' b' (hab.resolve_right hk) (hab'.resolve_right hk') he
  · by_cases hk : a = k ∧ b = i
    · have e2 : (kNw K k i).2 a b = fun _ => none := if_pos hk
      rw [e2] at hr; cases hr
    · have e2 : (kNw K k i).2 a b = K.2 a b := if_neg hk
      rw [e2] at hr
      exact Or.inl (h.2.2 a b j r (hab.resolve_right hk) hr)
theorem nw_na (S : cS) (t : Nat) : nw S t = na S t 0 := rfl
theorem na_2 (S : cS) (t N : Nat) : (na S t N).2 = S.2 + 1 := rfl
theorem kB.nw {PI PR : Nat → Nat → Nat → Prop} {k i : Nat} (b : kB PI PR K K') (h1 : ∀ j, PI k i j) (h2 : ∀ j, PR k i j) : kB PI PR K (kNw K' k i) := by
  refine ⟨fun a c d z => ?_, fun a c d z => ?_⟩
  · have : (kNw K' k i).1 a c = K'.1 a c := if_neg (fun y => z (by rw [y.1, y.2]; exact h1 d))
    rw [this]; exact b.1 a c d z
  · have : (kNw K' k i).2 a c = K'.2 a c := if_neg (fun y => z (by rw [y.1, y.2]; exact h2 d))
    rw [this]; exact b.2 a c d z
theorem kNw_i {k i a c : Nat} (h : ¬ (a = k ∧ c = i)) (j : Nat) : (kNw K k i).1 a c j = K.1 a c j := by
  have : (kNw K k i).1 a c = K.1 a c := if_neg h
  rw [this]
theorem kNw_r {k i a c : Nat} (h : ¬ (a = k ∧ c = i)) (j : Nat) : (kNw K k i).2 a c j = K.2 a c j := by
  have : (kNw K k i).2 a c = K.2 a c := if_neg h
  rw [this]
theorem kNw_is (k i j : Nat) : (kNw K k i).1 k i j = 0 := by
  have : (kNw K k i).1 k i = fun _ => 0 := if_pos ⟨rfl, rfl⟩
  rw [this]
theorem kNw_rs (k i j : Nat) : (kNw K k i).2 k i j = none := by
  have : (kNw K k i).2 k i = fun _ => none := if_pos ⟨rfl, rfl⟩
  rw [this]
theorem kwR_row {k i j a b c : Nat} {v : Option (Nat × Nat)} (h : ¬ (a = k ∧ b = i ∧ c = j)) : (kwR K k i j v).2 a b c = K.2 a b c := if_neg h
theorem kwR_ss (k i j : Nat) (v : Option (Nat × Nat)) : (kwR K k i j v).2 k i j = v := if_pos ⟨rfl, rfl, rfl⟩
theorem pI_2 {r : Option Nat} {ci k : Nat} {v : Int32} (h : pI S r ci k v = some S') : S'.2 = S.2 := by
  unfold pI at h
  cases hg : gc S r ci with
  | none => rw [hg] at h; cases h
  | some q =>
    rw [hg] at h
    have h : (if q.1 = 0 then none else some (setC S q.1 (q.2.1, q.2.2.1, upd q.2.2.2.1 k v, q.2.2.2.2))) = some S' := h
    by_cases c : q.1 = 0
    · rw [if_pos c] at h; cases h
    · rw [if_neg c] at h; cases h; rfl
theorem pR_2 {r v : Option Nat} {ci k : Nat} (h : pR S r ci k v = some S') : S'.2 = S.2 := by
  unfold pR at h
  cases hg : gc S r ci with
  | none => rw [hg] at h; cases h
  | some q =>
    rw [hg] at h
    have h : (if q.1 = 0 then none else some (setC S q.1 (q.2.1, q.2.2.1, q.2.2.2.1, updR q.2.2.2.2 k v))) = some S' := h
    by_cases c : q.1 = 0
    · rw [if_pos c] at h; cases h
    · rw [if_neg c] at h; cases h; rfl
variable {k i j t : Nat}
theorem KA.PI2 (h : KA A ex K S) (hx : ex k i) (ht : (kT k).1 = t) (h65 : k ≠ 65) (v : Int32) : ∃ S', pI S (some (A k i)) t j v = some S' ∧ KA A ex (kwI K k i j v) S' ∧ S'.2 = S.2 := by
  obtain ⟨S', e, h'⟩ := h.PI (j := j) hx ht h65 v
  exact ⟨S', e, h', pI_2 e⟩
theorem KA.PR2 (h : KA A ex K S) (hx : ex k i) (ht : (kT k).1 = t) (h65 : k ≠ 65) (v : Option (Nat × Nat)) (hv : ∀ r, v = some r → ex r.1 r.2) : ∃ S', pR S (some (A k i)) t j (v.map (kp A)) = some S' ∧ KA A ex (kwR K k i j v) S' ∧ S'.2 = S.2 := by
  obtain ⟨S', e, h'⟩ := h.PR (j := j) hx ht h65 v hv
  exact ⟨S', e, h', pR_2 e⟩
end ALC
