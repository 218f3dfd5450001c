def kTL : List (Nat × Nat) := [(3, 0), (6, 0), (20, 15), (20, 15), (20, 15), (20, 15), (9, 0), (20, 15), (20, 5), (20, 5), (20, 5), (6, 0), (20, 15), (20, 15), (20, 15), (20, 15), (8, 0), (7, 0), (2, 0), (2, 0), (2, 0), (2, 0), (20, 4), (20, 4), (20, 4), (20, 4), (20, 4), (20, 4), (20, 4), (20, 4), (20, 4), (20, 4), (20, 4), (20, 4), (0, 0), (50, 5), (20, 11), (20, 5), (4, 0), (9, 0), (20, 15), (20, 5), (20, 5), (20, 5), (9, 0), (20, 15), (20, 5), (20, 5), (20, 5), (11, 0), (10, 0), (33, 30), (5, 0), (37, 30), (50, 31), (20, 30), (20, 31), (20, 31), (1, 0), (38, 8), (36, 40), (36, 15), (30, 4), (34, 6), (39, 30), (20, 12)]
def kT (k : Nat) : Nat × Nat := kTL.getD k (99, 0)
abbrev kS : Type := (Nat → Nat → Nat → Int32) × (Nat → Nat → Nat → Option (Nat × Nat))
abbrev kA : Type := Nat → Nat → Nat
def kp (A : kA) (r : Nat × Nat) : Nat := A r.1 r.2
def KA (A : kA) (ex : Nat → Nat → Prop) (K : kS) (S : cS) : Prop :=
  (∀ k i, ex k i → S.1 (A k i) = some ((kT k).1, (kT k).2, K.1 k i, fun j => (K.2 k i j).map (kp A)) ∧ A k i < S.2 ∧ (k ≠ 65 → A k i ≠ 0)) ∧
  (∀ k i k' i', ex k i → ex k' i' → A k i = A k' i' → k = k' ∧ i = i') ∧
  (∀ k i j r, ex k i → K.2 k i j = some r → ex r.1 r.2)
def kwI (K : kS) (k i j : Nat) (v : Int32) : kS := (fun a b c => if a = k ∧ b = i ∧ c = j then v else K.1 a b c, K.2)
def kwR (K : kS) (k i j : Nat) (v : Option (Nat × Nat)) : kS := (K.1, fun a b c => if a = k ∧ b = i ∧ c = j then v else K.2 a b c)
theorem kT_lt : ∀ k, (kT k).2 < 2 ^ 31 := by
  intro k
  rcases Nat.lt_or_ge k 66 with h | h
  · exact (by decide +kernel : ∀ k, k < 66 → (kT k).2 < 2 ^ 31) k h
  · unfold kT
    rw [List.getD_eq_getElem?_getD, List.getElem?_eq_none (by show kTL.length ≤ k; exact Nat.le_trans (by decide) h)]
    decide
section KH
variable {A : kA} {ex : Nat → Nat → Prop} {K : kS} {S : cS} {k i j t : Nat}
theorem KA.GC (h : KA A ex K S) (hx : ex k i) (ht : (kT k).1 = t) : gc S (some (A k i)) t = some (A k i, (kT k).1, (kT k).2, K.1 k i, fun j => (K.2 k i j).map (kp A)) := by
  subst ht
  unfold gc
  rw [Option.bind_some, (h.1 k i hx).1, Option.bind_some, if_pos rfl]
theorem KA.I (h : KA A ex K S) (k t : Nat) (hx : ex k i) (ht : (kT k).1 = t) : gI S (some (A k i)) t j = some (K.1 k i j) := by
  unfold gI
  rw [h.GC hx ht]
  rfl
theorem KA.R (h : KA A ex K S) (k t : Nat) (hx : ex k i) (ht : (kT k).1 = t) : gR S (some (A k i)) t j = some ((K.2 k i j).map (kp A)) := by
  unfold gR
  rw [h.GC hx ht]
  rfl
theorem KA.Rc (h : KA A ex K S) (k t : Nat) (hx : ex k i) (ht : (kT k).1 = t) : rc S (some (A k i)) t = some (A k i) := by
  unfold rc
  rw [h.GC hx ht]
  rfl
theorem KA.nin {N : Nat} (ht : kT k = (t, N)) (hj : j < N) : ¬ (nI j < 0 ∨ (kT k).2 ≤ (nI j).toNatClampNeg) := by
  have h1 := kT_lt k
  rw [ht] at h1 ⊢
  exact nI_in hj h1
theorem KA.clampj {N : Nat} (ht : kT k = (t, N)) (hj : j < N) : (nI j).toNatClampNeg = j := by
  have h1 := kT_lt k
  rw [ht] at h1
  exact nI_clamp (show j < 2 ^ 31 from Nat.lt_trans hj h1)
theorem KA.AI (h : KA A ex K S) (k N : Nat) (hx : ex k i) (ht : kT k = (20, N)) (hj : j < N) : aI S (some (A k i)) (nI j) = some (K.1 k i j) := by
  unfold aI
  rw [h.GC hx (by rw [ht]), Option.bind_some]
  rw [if_neg (KA.nin ht hj), KA.clampj ht hj]
theorem KA.AR (h : KA A ex K S) (k t N : Nat) (hx : ex k i) (ht : kT k = (t, N)) (hj : j < N) : aR S (some (A k i)) t (nI j) = some ((K.2 k i j).map (kp A)) := by
  unfold aR
  rw [h.GC hx (by rw [ht]), Option.bind_some]
  rw [if_neg (KA.nin ht hj), KA.clampj ht hj]
theorem KA.AL (h : KA A ex K S) (k t N : Nat) (hx : ex k i) (ht : kT k = (t, N)) : aL S (some (A k i)) t = some (nI N) := by
  unfold aL
  rw [h.GC hx (by rw [ht]), Option.bind_some]
  show some (Int32.ofNat (kT k).2) = _
  rw [ht]
  rfl
theorem KA.inj (h : KA A ex K S) {k i k' i' : Nat} (hx : ex k i) (hx' : ex k' i') : (A k i = A k' i') = (k = k' ∧ i = i') := propext ⟨h.2.1 k i k' i' hx hx', fun z => by rw [z.1, z.2]⟩
theorem KA.put (h : KA A ex K S) (hx : ex k i) {K' : kS} {c : cE} (hc : c = ((kT k).1, (kT k).2, K'.1 k i, fun j => (K'.2 k i j).map (kp A))) (ho : ∀ a b, (a ≠ k ∨ b ≠ i) → K'.1 a b = K.1 a b ∧ K'.2 a b = K.2 a b) (hr : ∀ j r, K'.2 k i j = some r → ex r.1 r.2) : KA A ex K' (setC S (A k i) c) := by
  refine ⟨fun a b hab => ?_, h.2.1, fun a b j r hab hr2 => ?_⟩
  · by_cases he : a = k ∧ b = i
    · obtain ⟨rfl, rfl⟩ := he
      refine ⟨?_, (h.1 a b hab).2⟩
      show (if A a b = A a b then some c else S.1 (A a b)) = _
      rw [if_pos rfl, hc]
    · have hne : ¬ A a b = A k i := fun z => he (h.2.1 a b k i hab hx z)
      have ho' := ho a b (by
        rcases Nat.decEq a k with h1 | h1
        · exact Or.inl h1
        · exact Or.inr (fun z => he ⟨h1, z⟩))
      refine ⟨?_, (h.1 a b hab).2⟩
      show (if A a b = A k i then some c else S.1 (A a b)) = _
      rw [if_neg hne, (h.1 a b hab).1, ho'.1, ho'.2]
  · by_cases he : a = k ∧ b = i
    · obtain ⟨rfl, rfl⟩ := he
      exact hr j r hr2
    · have ho' := ho a b (by
        rcases Nat.decEq a k with h1 | h1
        · exact Or.inl h1
        · exact Or.inr (fun z => he ⟨h1, z⟩))
      rw [ho'.2] at hr2
      exact h.2.2 a b j r hab hr2
theorem KA.wI (h : KA A ex K S) (hx : ex k i) (v : Int32) : KA A ex (kwI K k i j v) (setC S (A k i) ((kT k).1, (kT k).2, upd (K.1 k i) j v, fun j => (K.2 k i j).map (kp A))) := by
  refine h.put hx ?_ (fun a b hab => ⟨?_, rfl⟩) (fun j r hr => h.2.2 k i j r hx hr)
  · have e1 : upd (K.1 k i) j v = (kwI K k i j v).1 k i := by
      funext c
      show (if c = j then v else K.1 k i c) = if k = k ∧ i = i ∧ c = j then v else K.1 k i c
      simp
    rw [e1]
    rfl
  · funext c
    show (if a = k ∧ b = i ∧ c = j then v else K.1 a b c) = _
    rw [if_neg (fun z => hab.elim (fun y => y z.1) (fun y => y z.2.1))]
theorem KA.wR (h : KA A ex K S) (hx : ex k i) (v : Option (Nat × Nat)) (hv : ∀ r, v = some r → ex r.1 r.2) : KA A ex (kwR K k i j v) (setC S (A k i) ((kT k).1, (kT k).2, K.1 k i, updR (fun j => (K.2 k i j).map (kp A)) j (v.map (kp A)))) := by
  refine h.put hx ?_ (fun a b hab => ⟨rfl, ?_⟩) (fun c r hr => ?_)
  · have e1 : updR (fun j => (K.2 k i j).map (kp A)) j (v.map (kp A)) = fun c => ((kwR K k i j v).2 k i c).map (kp A) := by
      funext c
      show (if c = j then v.map (kp A) else (K.2 k i c).map (kp A)) = (if k = k ∧ i = i ∧ c = j then v else K.2 k i c).map (kp A)
      by_cases hc : c = j
      · simp [hc]
      · simp [hc]
    rw [e1]
    rfl
  · funext c
    show (if a = k ∧ b = i ∧ c = j then v else K.2 a b c) = _
    rw [if_neg (fun z => hab.elim (fun y => y z.1) (fun y => y z.2.1))]
  · have hr : (if k = k ∧ i = i ∧ c = j then v else K.2 k i c) = some r := hr
    by_cases hc : c = j
    · rw [if_pos ⟨rfl, rfl, hc⟩] at hr; exact hv r hr
    · rw [if_neg (fun z => hc z.2.2)] at hr; exact h.2.2 k i c r hx hr
theorem KA.PI (h : KA A ex K S) (hx : ex k i) (ht : (kT k).1 = t) (h65 : k ≠ 65) (v : Int32) : ∃ S', pI S (some (A k i)) t j v = some S' ∧ KA A ex (kwI K k i j v) S' := by
  refine ⟨_, ?_, h.wI (j := j) hx v⟩
  unfold pI
  rw [h.GC hx ht, Option.bind_some, if_neg ((h.1 k i hx).2.2 h65)]
theorem KA.PZ (h : KA A ex K S) (hx : ex k i) (ht : (kT k).1 = t) (h65 : k ≠ 65) {v : Int32} (hv : v = 0 ∨ v = 1) : ∃ S', pZ S (some (A k i)) t j v = some S' ∧ KA A ex (kwI K k i j v) S' := by
  unfold pZ
  rw [if_pos hv]
  exact h.PI hx ht h65 v
theorem KA.PR (h : KA A ex K S) (hx : ex k i) (ht : (kT k).1 = t) (h65 : k ≠ 65) (v : Option (Nat × Nat)) (hv : ∀ r, v = some r → ex r.1 r.2) : ∃ S', pR S (some (A k i)) t j (v.map (kp A)) = some S' ∧ KA A ex (kwR K k i j v) S' := by
  refine ⟨_, ?_, h.wR (j := j) hx v hv⟩
  unfold pR
  rw [h.GC hx ht, Option.bind_some, if_neg ((h.1 k i hx).2.2 h65)]
theorem KA.SI {N : Nat} (h : KA A ex K S) (hx : ex k i) (ht : kT k = (20, N)) (h65 : k ≠ 65) (hj : j < N) (v : Int32) : ∃ S', sI S (some (A k i)) (nI j) v = some S' ∧ KA A ex (kwI K k i j v) S' := by
  refine ⟨_, ?_, h.wI (j := j) hx v⟩
  unfold sI
  rw [h.GC hx (by rw [ht]), Option.bind_some]
  have := KA.nin ht hj
  rw [if_neg (fun z => z.elim ((h.1 k i hx).2.2 h65) this), KA.clampj ht hj]
theorem KA.SR {N ci : Nat} (h : KA A ex K S) (hx : ex k i) (ht : kT k = (30 + ci, N)) (h65 : k ≠ 65) (hj : j < N) (v : Option (Nat × Nat)) (hv : ∀ r, v = some r → ex r.1 r.2 ∧ (kT r.1).1 = ci) : ∃ S', sR S (some (A k i)) ci (nI j) (v.map (kp A)) = some S' ∧ KA A ex (kwR K k i j v) S' := by
  refine ⟨_, ?_, h.wR (j := j) hx v (fun r hr => (hv r hr).1)⟩
  unfold sR
  rw [h.GC hx (by rw [ht]), Option.bind_some]
  have hok : okR S (v.map (kp A)) ci = true := by
    cases v with
    | none => rfl
    | some r =>
      obtain ⟨h1, h2⟩ := hv r rfl
      show okR S (some (A r.1 r.2)) ci = true
      unfold okR
      simp only [h.GC h1 h2]
      rfl
  have := KA.nin ht hj
  rw [if_neg (fun z => z.elim ((h.1 k i hx).2.2 h65) (fun z => z.elim (fun z => this (Or.inl z)) (fun z => z.elim (fun z => this (Or.inr z)) (fun z => by rw [hok] at z; cases z)))), KA.clampj ht hj]
theorem KA.mono (h : KA A ex K S) {n : Nat} (hn : S.2 ≤ n) : KA A ex K (S.1, n) := ⟨fun k i hx => ⟨(h.1 k i hx).1, Nat.lt_of_lt_of_le (h.1 k i hx).2.1 hn, (h.1 k i hx).2.2⟩, h.2⟩
theorem KA.new (h : KA A ex K S) (hn : ¬ ex k i) (h0 : S.2 ≠ 0) : ∃ A' : kA, (∀ a b, ex a b → A' a b = A a b) ∧ A' k i = S.2 ∧ KA A' (fun a b => ex a b ∨ (a = k ∧ b = i)) (fun a b => if a = k ∧ b = i then fun _ => 0 else K.1 a b, fun a b => if a = k ∧ b = i then fun _ => none else K.2 a b) (fun b => if b = S.2 then some ((kT k).1, (kT k).2, fun _ => 0, fun _ => none) else S.1 b, S.2 + 1) := by
  have hA : ∀ a b, ex a b → (if a = k ∧ b = i then S.2 else A a b) = A a b := fun a b hab => if_neg (fun z => hn (by rw [← z.1, ← z.2]; exact hab))
  refine ⟨fun a b => if a = k ∧ b = i then S.2 else A a b, hA, if_pos ⟨rfl, rfl⟩, fun a b hab => ?_, fun a b a' b' hab hab' he => ?_, fun a b j r hab hr => ?_⟩
  · by_cases hk : a = k ∧ b = i
    · obtain ⟨rfl, rfl⟩ := hk
      simp only [and_self, if_true]
      exact ⟨rfl, Nat.lt_succ_self _, fun _ => h0⟩
    · have hab' : ex a b := hab.resolve_right hk
      obtain ⟨h1, h2, h3⟩ := h.1 a b hab'
      simp only [if_neg hk]
      rw [if_neg (by omega), h1]
      refine ⟨?_, by omega, h3⟩
      have e1 : (fun j => Option.map (kp A) (K.2 a b j)) = fun j => Option.map (kp (fun a b => if a = k ∧ b = i then S.2 else A a b)) (K.2 a b j) := by
        funext j
        cases hr : K.2 a b j with
        | none => rfl
        | some r => exact congrArg some (hA r.1 r.2 (h.2.2 a b j r hab' hr)).symm
      rw [e1]
  · by_cases hk : a = k ∧ b = i
    · by_cases hk' : a' = k ∧ b' = i
      · exact ⟨hk.1.trans hk'.1.symm, hk.2.trans hk'.2.symm⟩
      · simp only [if_pos hk, if_neg hk'] at he
        have := (h.1 a' b' (hab'.resolve_right hk')).2.1
        omega
    · by_cases hk' : a' = k ∧ b' = i
      · simp only [if_pos hk', if_neg hk] at he
        have := (h.1 a b (hab.resolve_right hk)).2.1
        omega
      · simp only [if_neg hk', if_neg hk] at he
        exact h.2.1 a b a' b' (hab.resolve_right hk) (hab'.resolve_right hk') he
  · by_cases hk : a = k ∧ b = i
    · simp only [if_pos hk] at hr; cases hr
    · simp only [if_neg hk] at hr
      exact Or.inl (h.2.2 a b j r (hab.resolve_right hk) hr)
theorem kwI_1 (K : kS) (k i j : Nat) (v : Int32) (a b c : Nat) : (kwI K k i j v).1 a b c = if a = k ∧ b = i ∧ c = j then v else K.1 a b c := rfl
theorem kwI_2 (K : kS) (k i j : Nat) (v : Int32) : (kwI K k i j v).2 = K.2 := rfl
theorem kwR_1 (K : kS) (k i j : Nat) (v : Option (Nat × Nat)) : (kwR K k i j v).1 = K.1 := rfl
theorem kwR_2 (K : kS) (k i j : Nat) (v : Option (Nat × Nat)) (a b c : Nat) : (kwR K k i j v).2 a b c = if a = k ∧ b = i ∧ c = j then v else K.2 a b c := rfl
def kB (PI PR : Nat → Nat → Nat → Prop) (K K' : kS) : Prop := (∀ k i j, ¬ PI k i j → K'.1 k i j = K.1 k i j) ∧ ∀ k i j, ¬ PR k i j → K'.2 k i j = K.2 k i j
theorem kB.rf {PI PR : Nat → Nat → Nat → Prop} (K : kS) : kB PI PR K K := ⟨fun _ _ _ _ => rfl, fun _ _ _ _ => rfl⟩
theorem kB.tr {PI PR : Nat → Nat → Nat → Prop} {a b c : kS} (h : kB PI PR a b) (g : kB PI PR b c) : kB PI PR a c := ⟨fun k i j z => (g.1 k i j z).trans (h.1 k i j z), fun k i j z => (g.2 k i j z).trans (h.2 k i j z)⟩
theorem kB.wd {PI PR QI QR : Nat → Nat → Nat → Prop} {a b : kS} (h : kB PI PR a b) (h1 : ∀ k i j, PI k i j → QI k i j) (h2 : ∀ k i j, PR k i j → QR k i j) : kB QI QR a b := ⟨fun k i j z => h.1 k i j (fun y => z (h1 k i j y)), fun k i j z => h.2 k i j (fun y => z (h2 k i j y))⟩
theorem kB.I {PI PR : Nat → Nat → Nat → Prop} {a b : kS} {k i j : Nat} {v : Int32} (h : kB PI PR a b) (hp : PI k i j) : kB PI PR a (kwI b k i j v) := ⟨fun x y z hz => by rw [kwI_1, if_neg (fun e => hz (by rw [e.1, e.2.1, e.2.2]; exact hp))]; exact h.1 x y z hz, h.2⟩
theorem kB.R {PI PR : Nat → Nat → Nat → Prop} {a b : kS} {k i j : Nat} {v : Option (Nat × Nat)} (h : kB PI PR a b) (hp : PR k i j) : kB PI PR a (kwR b k i j v) := ⟨h.1, fun x y z hz => by rw [kwR_2, if_neg (fun e => hz (by rw [e.1, e.2.1, e.2.2]; exact hp))]; exact h.2 x y z hz⟩
end KH
