theorem lo_ok (x : Int32) {n : Nat} (h0 : 0 < n) (hn : n < 2 ^ 31) (V : lwS) : ∃ k, k < n ∧ f_L_low x (nI n) V = some (nI k, V) := by
  obtain ⟨j, hj, e⟩ := pk_andE x (m := (2147483647 : Int32)) 31 (by decide)
  refine ⟨j % n, Nat.mod_lt _ h0, ?_⟩
  unfold f_L_low rm
  rw [e, if_neg (nI_ne0 h0 hn), pk_rem hj h0 hn, qqx]
theorem sl_ok (x : Int32) (V : lwS) : ∃ z, f_L_still x V = some (z, V) ∧ (z ≠ 10 ∧ z ≠ 11) ∧ (x ≠ 6 → z ≠ 6) := by
  unfold f_L_still
  by_cases h1 : x = 10
  · rw [if_pos h1]; exact ⟨2, rfl, ⟨by decide, by decide⟩, fun _ => by decide⟩
  · rw [if_neg h1]
    by_cases h2 : x = 11
    · rw [if_pos h2]; exact ⟨2, rfl, ⟨by decide, by decide⟩, fun _ => by decide⟩
    · rw [if_neg h2]; exact ⟨x, rfl, ⟨h1, h2⟩, fun h => h⟩
/-- the law's numbers -/
def nB (n : Nat → Int32) (T : qqT) (G : qqG) (mm : Nat × Nat × Nat) (hl : Bool) : Prop := (n 0 = nI (Tn T) ∧ Tn T ≤ 12) ∧ (n 1 = nI (Gs G) ∧ Gs G ≤ 8) ∧ (n 2 = nI (Gk G) ∧ Gk G ≤ 6) ∧ (n 3 = nI (Gr G) ∧ Gr G ≤ 12) ∧ (n 4 = nI mm.1 ∧ n 5 = nI mm.2.1 ∧ n 6 = nI mm.2.2) ∧ (n 7 = 0 ∨ n 7 = 1) ∧ (n 7 = 0 → hl = false)
def LWi (na : Nat) (T : qqT) (G : qqG) (mm : Nat × Nat × Nat) (hl : Bool) (V : lwS) : Prop := LQ mm hl false T G V ∧ (∃ n, V.2.2 na = some (9, n) ∧ nB n T G mm hl) ∧ (0 : Int32) ≤ V.1.2 50
/-- what an act leaves -/
def AO (ct na : Nat) (T : qqT) (G : qqG) (mm : Nat × Nat × Nat) (V : lwS) (r : Option (Int32 × lwS)) : Prop := ∃ v V', r = some (v, V') ∧ V'.2.1 ≤ V.2.1 + ct ∧ (∀ x, x ≠ na → V'.2.2 x = V.2.2 x) ∧ ∃ T' G' hl', LWi na T' G' mm hl' V' ∧ (((-1 : Int32) ≤ v ∨ v ≤ -9) ∨ (T' = T ∧ G' = G ∧ scE V.1 V'.1))
section NB
variable {ct cu na : Nat} {n : Nat → Int32} {mm mm' : Nat × Nat × Nat} {hl hl' : Bool} {T T' : qqT} {G G' : qqG} {V V0 : lwS} {v : Int32} {r : Option (Int32 × lwS)}
theorem nB.cg (h : nB n T G mm hl) (e : Tn T' = Tn T ∧ Gs G' = Gs G ∧ Gk G' = Gk G ∧ Gr G' = Gr G) : nB n T' G' mm hl := by
  obtain ⟨e1, e2, e3, e4⟩ := e
  obtain ⟨⟨a1, a2⟩, ⟨b1, b2⟩, ⟨c1, c2⟩, ⟨d1, d2⟩, h⟩ := h
  exact ⟨⟨a1.trans (by rw [e1]), by omega⟩, ⟨b1.trans (by rw [e2]), by omega⟩, ⟨c1.trans (by rw [e3]), by omega⟩, ⟨d1.trans (by rw [e4]), by omega⟩, h⟩
theorem nB.u0 (h : nB n T G mm hl) (e : Tn T' = Tn T + 1) (k : Tn T < 12) : nB (upd n 0 (nI (Tn T + 1))) T' G mm hl :=
  ⟨⟨pk_us.trans (by rw [e]), by omega⟩, ⟨(pk_un (by decide)).trans h.2.1.1, h.2.1.2⟩, ⟨(pk_un (by decide)).trans h.2.2.1.1, h.2.2.1.2⟩, ⟨(pk_un (by decide)).trans h.2.2.2.1.1, h.2.2.2.1.2⟩, ⟨(pk_un (by decide)).trans h.2.2.2.2.1.1, (pk_un (by decide)).trans h.2.2.2.2.1.2.1, (pk_un (by decide)).trans h.2.2.2.2.1.2.2⟩, h.2.2.2.2.2.1.imp (fun z => (pk_un (by decide)).trans z) (fun z => (pk_un (by decide)).trans z), fun z => h.2.2.2.2.2.2 ((pk_un (by decide)).symm.trans z)⟩
theorem nB.u1 (h : nB n T G mm hl) (e : Gs G' = Gs G + 1 ∧ Gk G' = Gk G ∧ Gr G' = Gr G) (k : Gs G < 8) : nB (upd n 1 (nI (Gs G + 1))) T G' mm hl :=
  ⟨⟨(pk_un (by decide)).trans h.1.1, h.1.2⟩, ⟨pk_us.trans (by rw [e.1]), by have := e.1; omega⟩, ⟨(pk_un (by decide)).trans (h.2.2.1.1.trans (by rw [e.2.1])), by have := e.2.1; have := h.2.2.1.2; omega⟩, ⟨(pk_un (by decide)).trans (h.2.2.2.1.1.trans (by rw [e.2.2])), by have := e.2.2; have := h.2.2.2.1.2; omega⟩, ⟨(pk_un (by decide)).trans h.2.2.2.2.1.1, (pk_un (by decide)).trans h.2.2.2.2.1.2.1, (pk_un (by decide)).trans h.2.2.2.2.1.2.2⟩, h.2.2.2.2.2.1.imp (fun z => (pk_un (by decide)).trans z) (fun z => (pk_un (by decide)).trans z), fun z => h.2.2.2.2.2.2 ((pk_un (by decide)).symm.trans z)⟩
theorem nB.u2 (h : nB n T G mm hl) (e : Gs G' = Gs G ∧ Gk G' = Gk G + 1 ∧ Gr G' = Gr G) (k : Gk G < 6) : nB (upd n 2 (nI (Gk G + 1))) T G' mm hl :=
  ⟨⟨(pk_un (by decide)).trans h.1.1, h.1.2⟩, ⟨(pk_un (by decide)).trans (h.2.1.1.trans (by rw [e.1])), by have := e.1; have := h.2.1.2; omega⟩, ⟨pk_us.trans (by rw [e.2.1]), by have := e.2.1; omega⟩, ⟨(pk_un (by decide)).trans (h.2.2.2.1.1.trans (by rw [e.2.2])), by have := e.2.2; have := h.2.2.2.1.2; omega⟩, ⟨(pk_un (by decide)).trans h.2.2.2.2.1.1, (pk_un (by decide)).trans h.2.2.2.2.1.2.1, (pk_un (by decide)).trans h.2.2.2.2.1.2.2⟩, h.2.2.2.2.2.1.imp (fun z => (pk_un (by decide)).trans z) (fun z => (pk_un (by decide)).trans z), fun z => h.2.2.2.2.2.2 ((pk_un (by decide)).symm.trans z)⟩
theorem nB.u3 (h : nB n T G mm hl) (e : Gs G' = Gs G ∧ Gk G' = Gk G ∧ Gr G' = Gr G + 1) (k : Gr G < 12) : nB (upd n 3 (nI (Gr G + 1))) T G' mm hl :=
  ⟨⟨(pk_un (by decide)).trans h.1.1, h.1.2⟩, ⟨(pk_un (by decide)).trans (h.2.1.1.trans (by rw [e.1])), by have := e.1; have := h.2.1.2; omega⟩, ⟨(pk_un (by decide)).trans (h.2.2.1.1.trans (by rw [e.2.1])), by have := e.2.1; have := h.2.2.1.2; omega⟩, ⟨pk_us.trans (by rw [e.2.2]), by have := e.2.2; omega⟩, ⟨(pk_un (by decide)).trans h.2.2.2.2.1.1, (pk_un (by decide)).trans h.2.2.2.2.1.2.1, (pk_un (by decide)).trans h.2.2.2.2.1.2.2⟩, h.2.2.2.2.2.1.imp (fun z => (pk_un (by decide)).trans z) (fun z => (pk_un (by decide)).trans z), fun z => h.2.2.2.2.2.2 ((pk_un (by decide)).symm.trans z)⟩
theorem nB.u7 (h : nB n T G mm hl) (b : Bool) : nB (upd n 7 (n 7 ||| b2 b)) T G mm (hl || b) :=
  ⟨⟨(pk_un (by decide)).trans h.1.1, h.1.2⟩, ⟨(pk_un (by decide)).trans h.2.1.1, h.2.1.2⟩, ⟨(pk_un (by decide)).trans h.2.2.1.1, h.2.2.1.2⟩, ⟨(pk_un (by decide)).trans h.2.2.2.1.1, h.2.2.2.1.2⟩, ⟨(pk_un (by decide)).trans h.2.2.2.2.1.1, (pk_un (by decide)).trans h.2.2.2.2.1.2.1, (pk_un (by decide)).trans h.2.2.2.2.1.2.2⟩, by
    rw [show upd n 7 (n 7 ||| b2 b) 7 = n 7 ||| b2 b from pk_us]
    rcases h.2.2.2.2.2.1 with z | z <;> rw [z] <;> cases b <;> decide, fun z => by
    have z : n 7 ||| b2 b = 0 := pk_us.symm.trans z
    rcases h.2.2.2.2.2.1 with w | w
    · rw [h.2.2.2.2.2.2 w]
      rw [w] at z
      cases b
      · rfl
      · exact absurd z (by decide)
    · rw [w] at z
      cases b <;> exact absurd z (by decide)⟩
theorem nB.u8 (h : nB n T G mm hl) (v : Int32) : nB (upd n 8 v) T G mm hl :=
  ⟨⟨(pk_un (by decide)).trans h.1.1, h.1.2⟩, ⟨(pk_un (by decide)).trans h.2.1.1, h.2.1.2⟩, ⟨(pk_un (by decide)).trans h.2.2.1.1, h.2.2.1.2⟩, ⟨(pk_un (by decide)).trans h.2.2.2.1.1, h.2.2.2.1.2⟩, ⟨(pk_un (by decide)).trans h.2.2.2.2.1.1, (pk_un (by decide)).trans h.2.2.2.2.1.2.1, (pk_un (by decide)).trans h.2.2.2.2.1.2.2⟩, h.2.2.2.2.2.1.imp (fun z => (pk_un (by decide)).trans z) (fun z => (pk_un (by decide)).trans z), fun z => h.2.2.2.2.2.2 ((pk_un (by decide)).symm.trans z)⟩
theorem nB.um (h : nB n T G mm hl) (a b c : Nat) : nB (upd (upd (upd n 4 (nI a)) 5 (nI b)) 6 (nI c)) T G (a, b, c) hl := by
  have o : ∀ j, j ≠ 4 → j ≠ 5 → j ≠ 6 → upd (upd (upd n 4 (nI a)) 5 (nI b)) 6 (nI c) j = n j := fun j h4 h5 h6 => (pk_un h6).trans ((pk_un h5).trans (pk_un h4))
  exact ⟨⟨(o 0 (by decide) (by decide) (by decide)).trans h.1.1, h.1.2⟩, ⟨(o 1 (by decide) (by decide) (by decide)).trans h.2.1.1, h.2.1.2⟩, ⟨(o 2 (by decide) (by decide) (by decide)).trans h.2.2.1.1, h.2.2.1.2⟩, ⟨(o 3 (by decide) (by decide) (by decide)).trans h.2.2.2.1.1, h.2.2.2.1.2⟩, ⟨(pk_un (by decide)).trans ((pk_un (by decide)).trans pk_us), (pk_un (by decide)).trans pk_us, pk_us⟩, h.2.2.2.2.2.1.imp (fun z => (o 7 (by decide) (by decide) (by decide)).trans z) (fun z => (o 7 (by decide) (by decide) (by decide)).trans z), fun z => h.2.2.2.2.2.2 ((o 7 (by decide) (by decide) (by decide)).symm.trans z)⟩
theorem nB.hw (h : nB n T G mm hl) (k : hl = false → hl' = false) : nB n T G mm hl' := ⟨h.1, h.2.1, h.2.2.1, h.2.2.2.1, h.2.2.2.2.1, h.2.2.2.2.2.1, fun z => k (h.2.2.2.2.2.2 z)⟩
theorem AO.b (h : AO ct na T G mm V r) : AO ct na T G mm V (r.bind fun v => some (v.1, v.2)) := by
  obtain ⟨v, V', rfl, h⟩ := h
  exact ⟨v, V', rfl, h⟩
theorem AO.fr (e1 : V.1 = V0.1) (e2 : V.2.1 = V0.2.1) (e3 : ∀ x, x ≠ na → V.2.2 x = V0.2.2 x) (h : AO ct na T G mm V r) : AO ct na T G mm V0 r := by
  obtain ⟨v, V', e, c, fr, T', G', hl', l, k⟩ := h
  exact ⟨v, V', e, by rw [← e2]; exact c, fun x hx => (fr x hx).trans (e3 x hx), T', G', hl', l, by rw [← e1]; exact k⟩
theorem ao_9 (h : LWi na T G mm hl V) : AO ct na T G mm V (some (-9, V)) := ⟨-9, V, rfl, Nat.le_add_right _ _, fun _ _ => rfl, T, G, hl, h, Or.inl (Or.inr (by decide))⟩
theorem sf50 (σ : mS) (y : Int32) : (sf σ 81 y).2 50 = σ.2 50 := sf_o (by decide)
theorem ao_U {g : mS → Option mS} {P : qqT → qqG → mS → Prop} (h : LWi na T G mm hl V) (t : stU g mm hl false mm hl false T G P V) (f : Int32 × Int32 → Int32) (hf : f (0, 0) = 0) (hP : ∀ T' G' σ', g V.1 = some σ' → P T' G' σ' → (Tn T' = Tn T ∧ Gs G' = Gs G ∧ Gk G' = Gk G ∧ Gr G' = Gr G) ∧ σ'.2 50 = V.1.2 50) : AO 1 na T G mm V (oM f (oU g V)) := by
  obtain ⟨hq, ⟨n, hA, hB⟩, h50⟩ := h
  obtain ⟨σ', e1, e2, s⟩ := w_U t f
  have c1 : V.2.1 + 1 ≤ V.2.1 + 1 := Nat.le_refl _
  rcases s with ⟨y, hy, e3, l⟩ | ⟨z, T', G', p, l⟩
  · refine ⟨_, _, e2, c1, fun x _ => rfl, T, G, hl, ⟨l, ⟨n, hA, hB⟩, ?_⟩, Or.inr ⟨rfl, rfl, ?_⟩⟩
    · show (0 : Int32) ≤ σ'.2 50
      rw [e3, sf50]
      exact h50
    · show scE V.1 σ'
      rw [e3]
      exact scE.of (scR_sf V.1 y)
  · obtain ⟨c, w⟩ := hP T' G' σ' e1 p
    refine ⟨_, _, e2, c1, fun x _ => rfl, T', G', hl, ⟨l, ⟨n, hA, hB.cg c⟩, ?_⟩, Or.inl (Or.inl ?_)⟩
    · show (0 : Int32) ≤ σ'.2 50
      rw [w]
      exact h50
    · rw [z, hf]
      decide
theorem ao_R {g : mS → Option (Int32 × mS)} {P : qqT → qqG → mS → Prop} (hq : LQ mm hl false T G V) (hA : V.2.2 na = some (9, n)) (hB : nB n T G mm hl') (hh : hl' = false → hl = false) (h50 : (0 : Int32) ≤ V.1.2 50) (t : stP g mm hl false mm hl' false T G P V) (f : Int32 × Int32 → Int32) (hf : ∀ a σ', g V.1 = some (a, σ') → σ'.2 81 = 0 → (-1 : Int32) ≤ f (0, a)) (hP : ∀ T' G' σ', P T' G' σ' → (Tn T' = Tn T ∧ Gs G' = Gs G ∧ Gk G' = Gk G ∧ Gr G' = Gr G) ∧ σ'.2 50 = V.1.2 50) : AO 1 na T G mm V (oM f (oR g V)) := by
  obtain ⟨a, σ', e1, e2, s⟩ := w_R t f
  have c1 : V.2.1 + 1 ≤ V.2.1 + 1 := Nat.le_refl _
  rcases s with ⟨y, hy, e3, l⟩ | ⟨z, T', G', p, l⟩
  · refine ⟨_, _, e2, c1, fun x _ => rfl, T, G, hl', ⟨l.w hh (fun z => z), ⟨n, hA, hB⟩, ?_⟩, Or.inr ⟨rfl, rfl, ?_⟩⟩
    · show (0 : Int32) ≤ σ'.2 50
      rw [e3, sf50]
      exact h50
    · show scE V.1 σ'
      rw [e3]
      exact scE.of (scR_sf V.1 y)
  · obtain ⟨c, w⟩ := hP T' G' σ' p
    refine ⟨_, _, e2, c1, fun x _ => rfl, T', G', hl', ⟨l, ⟨n, hA, hB.cg c⟩, ?_⟩, Or.inl (Or.inl ?_)⟩
    · show (0 : Int32) ≤ σ'.2 50
      rw [w]
      exact h50
    · rw [z]
      exact hf a σ' e1 z
theorem AO.le (k : ct ≤ cu) (h : AO ct na T G mm V r) : AO cu na T G mm V r := by
  obtain ⟨v, V', e, c, h⟩ := h
  exact ⟨v, V', e, by omega, h⟩
/-- an act's last call, its answer not told -/
theorem AO.ig (h : AO ct na T' G' mm V r) (v : Int32) (hv : (-1 : Int32) ≤ v) (c : V.2.1 ≤ V0.2.1 + cu) (fr : ∀ x, x ≠ na → V.2.2 x = V0.2.2 x) : AO (cu + ct) na T G mm V0 (r.bind fun q => some (v, q.2)) := by
  obtain ⟨w, V', rfl, c1, f1, T1, G1, hl1, l, -⟩ := h
  exact ⟨v, V', rfl, by omega, fun x hx => (f1 x hx).trans (fr x hx), T1, G1, hl1, l, Or.inl (Or.inl hv)⟩
/-- the array of the law's numbers, written -/
def stV (V : lwS) (a : Nat) (n : Nat → Int32) : lwS := (V.1, V.2.1, fun x => if x = a then some (9, n) else V.2.2 x)
theorem stV_at : (stV V na n).2.2 na = some (9, n) := if_pos rfl
theorem stV_o {x : Nat} (h : x ≠ na) : (stV V na n).2.2 x = V.2.2 x := if_neg h
theorem stV_st (hA : V.2.2 na = some (9, n)) {i : Nat} (hi : i < 9) (v : Int32) : stA V na (nI i) v = some (stV V na (upd n i v)) := st_in hA hi (by decide) v
theorem stV_ld (hA : V.2.2 na = some (9, n)) {i : Nat} (hi : i < 9) : ldA V na (nI i) = some (n i) := ld_in hA hi (by decide)
theorem upd_id (f : Nat → Int32) (k : Nat) : upd f k (f k) = f := by
  funext j
  by_cases h : j = k
  · rw [h]; exact pk_us
  · exact pk_un h
end NB
