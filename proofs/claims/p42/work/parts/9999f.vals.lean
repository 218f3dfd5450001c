theorem oC_ok {g : mS → Option (Int32 × mS)} {mm mm' : Nat × Nat × Nat} {hl dr hl' dr' : Bool} {T : qqT} {G : qqG} {P : qqT → qqG → mS → Prop} {V : lwS} (t : stP g mm hl dr mm' hl' dr' T G P V) {v : Int32} {σ' : mS} (e : g V.1 = some (v, σ')) (z : σ'.2 81 = 0) : oC g V = some (v, (σ', V.2.1 + 1, V.2.2)) ∧ ∃ T' G', P T' G' σ' ∧ LQ mm' hl' dr' T' G' (σ', V.2.1 + 1, V.2.2) := by
  obtain ⟨a, σ1, e1, e2, s⟩ := t
  rw [e] at e1
  cases e1
  refine ⟨?_, ?_⟩
  · unfold oC
    rw [e2]
    show (if σ'.2 81 = 0 then some (v, (σ', V.2.1 + 1, V.2.2)) else none) = _
    rw [if_pos z]
  · rcases s with ⟨y, hy, e3, -⟩ | ⟨-, s⟩
    · rw [e3, sf_s] at z
      exact absurd z hy
    · exact s
section VA
variable {mm : Nat × Nat × Nat} {hl dr : Bool} {T : qqT} {G : qqG} {V : lwS} {σ σ' τ : mS} {e p k ar ar' : Nat}
def cgL : List Nat := [0, 1, 2, 3, 4, 5, 14, 15, 16, 17, 18, 19, 20, 21, 27, 29, 30, 34, 35, 37, 38, 39, 40, 41, 42]
def cG2 (σ σ' : mS) : Prop := (∀ f, f ∈ cgL → σ'.1 f = σ.1 f) ∧ σ'.2 50 = σ.2 50
theorem cG2.tr {a b c : mS} (h : cG2 a b) (k : cG2 b c) : cG2 a c := ⟨fun f hf => (k.1 f hf).trans (h.1 f hf), k.2.trans h.2⟩
theorem cG2.sy {a b : mS} (h : cG2 a b) : cG2 b a := ⟨fun f hf => (h.1 f hf).symm, h.2.symm⟩
theorem scE.cG2 (h : scE σ σ') : cG2 σ σ' := ⟨fun f hf => h.1 f (by revert f; decide) (by revert f; decide) (by revert f; decide) (by revert f; decide) (by revert f; decide), h.2.2.2.2 50 (by decide)⟩
theorem TV_cg (J : J1 T G σ) (c : cG2 σ σ') (s1 : ∀ x, x ∈ Tord T → sol T G σ ar x) (s2 : ∀ x, x ∈ Tord T → sol T G σ' ar' x) (he : e < Tn T) (hd : TD T e = true) (hp : p < 15) : TV σ' ar' e p = TV σ ar e p :=
  TV_eq (sol_uni J.1.1 J.1.2.2.r40 (fun x => fEq.of (fun f hf => c.1 f (by revert f; decide)) c.2) (fun x => hS_same (fun f hf => c.1 f (by revert f; decide)) (c.1 30 (by decide))) (Tord T) [] rfl s1 s2 (fun x hx => by cases hx) e (Tord_mem J.1.1 e he hd)).1 hp
theorem sol_nd (J : J1 T G σ) (q : Q k mm hl dr T G σ) (nd : ndB T σ = false) : ∀ x, x ∈ Tord T → sol T G σ 0 x := fun x hx => by
  obtain ⟨hn, hd⟩ := Tord_is J.1.1 hx
  obtain ⟨h1, h2⟩ := (nd_is T σ).mp nd x hn hd
  exact sol_0 (q.2.1 x hn hd h1 h2) (q.2.2.1 nd x hn hd)
theorem nd_sc (s : scE σ σ') : ndB T σ' = ndB T σ := by unfold ndB; rw [s.2.2.2.2 48 (by decide), s.2.2.2.2 49 (by decide)]
theorem TV_sc (s : scE σ σ') (he : e < 30) (hp : p < 15) : TV σ' 0 e p = TV σ 0 e p := TV_eq ⟨fun p hp => s.2.1 _ (by omega), fun v hv => s.2.2.1 _ (by omega)⟩ hp
theorem rd_nd (J : J1 T G σ) (nd : ndB T σ = false) (e : f_read (sf σ 81 0) = some σ') : scE σ σ' := by
  have J0 := J.sf81 0
  have n0 : ndB T (sf σ 81 0) = false := (nd_sc (scE.of (scR_sf σ 0))).trans nd
  unfold f_read at e
  rw [show (4000 : Nat) = 3999 + 1 from rfl, f_read_2, if_neg (by decide), r_needs J.1.1 J0.1.2.1, qqx, b2_i0, n0, if_neg (by decide)] at e
  obtain ⟨τ', e1, s1⟩ := rdP J0 (sB.rf (sf σ 81 0)) (L1 := []) (L2 := []) (by simp) (by simp)
  rw [e] at e1
  cases e1
  exact (scE.of (scR_sf σ 0)).tr s1
/-- found anew: the answer is the row of arena 1, which is right -/
theorem a_anew (hk : V.2.1 < 60000) (h : LQ mm hl dr T G V) (he : e < Tn T) (hd : TD T e = true) (hp : p < 15) : ∃ τ, oC (f_valueAnew (nI e) (nI p)) V = some (TV τ 1 e p, (τ, V.2.1 + 1, V.2.2)) ∧ LQ mm hl dr T G (τ, V.2.1 + 1, V.2.2) ∧ scE V.1 τ ∧ ∀ x, x ∈ Tord T → sol T G τ 1 x := by
  obtain ⟨τ2, τ, e1, z, ai, -⟩ := g_valueAnew h.j1 he hd hp
  obtain ⟨e2, T', G', ⟨rfl, rfl, s⟩, l⟩ := oC_ok (t_valueAnew hk h (nI e) (nI p)) e1 z
  exact ⟨τ, e2, l, s, ai.2.2.2.2.2⟩
/-- two states that differ in nothing but what a refusal may leave: found anew they answer the same -/
theorem anew_same (J : J1 T G σ) (c : cG2 σ σ') (s1 : ∀ x, x ∈ Tord T → sol T G σ 1 x) (s2 : ∀ x, x ∈ Tord T → sol T G σ' 1 x) (he : e < Tn T) (hd : TD T e = true) (hp : p < 15) : TV σ' 1 e p = TV σ 1 e p := TV_cg J c s1 s2 he hd hp
/-- behind a reading: found anew is what is told -/
theorem anew_told (J : J1 T G σ) (q : Q k mm hl dr T G σ) (nd : ndB T σ = false) (s : scE σ τ) (s2 : ∀ x, x ∈ Tord T → sol T G τ 1 x) (he : e < Tn T) (hd : TD T e = true) (hp : p < 15) : TV τ 1 e p = TV σ 0 e p := TV_cg J s.cG2 (sol_nd J q nd) s2 he hd hp
/-- a reading -/
theorem a_read (hk : V.2.1 < 60000) (h : LQ mm hl dr T G V) : ∃ σ', f_read (sf V.1 81 0) = some σ' ∧ σ'.2 81 = 0 := by
  obtain ⟨⟨S, L, A, ex, K, v, nw, w⟩, q⟩ := h
  obtain ⟨S', K', σ', v', -, e2, -, -, -, -, -, -, z, -⟩ := w.read hk
  exact ⟨σ', e2, z⟩
theorem a_value (hk : V.2.1 < 60000) (h : LQ mm hl dr T G V) (he : e < Tn T) (hd : TD T e = true) (hp : p < 15) : ∃ τ, oR (f_value (nI e) (nI p)) V = some ((0, TV τ 0 e p), (τ, V.2.1 + 1, V.2.2)) ∧ oC (f_value (nI e) (nI p)) V = some (TV τ 0 e p, (τ, V.2.1 + 1, V.2.2)) ∧ LQ mm hl dr T G (τ, V.2.1 + 1, V.2.2) ∧ ndB T τ = false ∧ (ndB T V.1 = false → scE V.1 τ) := by
  have J := h.j1
  have h30 := J.1.1.n30
  obtain ⟨τ, e1, z⟩ := a_read hk h
  have e2 : f_value (nI e) (nI p) V.1 = some (TV τ 0 e p, τ) := by
    unfold f_value f_value_41
    rw [r_isElement J.1.2.1 J.1.1, qqx, if_dt (nI_inn he (by omega)), r_in0 (nI p) (n := 15) (by decide) (by decide), qqx, if_dt (nI_inn hp (by decide)), r_inDoc J.1.1 J.1.2.1 he, qqx, hd, if_neg (by decide), r_holds0, qqx, if_pos rfl, e1, qqx, show (0 : Int32) = nI 0 from rfl, r_told (by decide) (by omega) hp, qqx]
  obtain ⟨e3, T', G', ⟨rfl, rfl, e9⟩, l⟩ := oC_ok (t_value hk h (nI e) (nI p)) e2 z
  refine ⟨τ, ?_, e3, l, (Q_rd J h.2 hk e1).2, fun nd => rd_nd J nd e1⟩
  unfold oR
  rw [if_pos hk, e2, qqx, z]
theorem a_size (hk : V.2.1 < 60000) (h : LQ mm hl dr T G V) (nd : ndB T V.1 = false) (he : e < Tn T) (hd : TD T e = true) : ∃ τ, oC (f_size (nI e)) V = some (V.1.1 46 e, (τ, V.2.1 + 1, V.2.2)) ∧ LQ mm hl dr T G (τ, V.2.1 + 1, V.2.2) ∧ scE V.1 τ := by
  have J := h.j1
  have h30 := J.1.1.n30
  obtain ⟨τ, e1, z⟩ := a_read hk h
  have s := rd_nd J nd e1
  have e2 : f_size (nI e) V.1 = some (V.1.1 46 e, τ) := by
    unfold f_size f_size_26
    rw [r_isElement J.1.2.1 J.1.1, qqx, if_dt (nI_inn he (by omega)), r_inDoc J.1.1 J.1.2.1 he, qqx, hd, if_neg (by decide), r_holds0, qqx, if_pos rfl, e1, qqx, rd_46 (by omega), qqx, s.2.2.2.1 e (by omega)]
  obtain ⟨e3, T', G', ⟨rfl, rfl, e9⟩, l⟩ := oC_ok (t_size hk h (nI e)) e2 z
  exact ⟨τ, e3, l, s⟩
theorem seen_row (J : J1 T G σ) (q : Q k mm hl dr T G σ) (nd : ndB T σ = false) (he : e < Tn T) (hd : TD T e = true) (hp : p < 5) : f_seenOf (nI e) (nI p) σ = some (σ.1 43 (12 * e + p)) := by
  have h30 := J.1.1.n30
  have bv : bV (qBs σ e p) := by
    unfold qBs
    by_cases z : σ.1 43 (12 * e + p) = -1000000
    · rw [if_pos z]; unfold bV; decide
    · rw [if_neg z]; exact (J.2.2.2.2.2.1 e he).2.1 p (by omega)
  rw [r_seenOf J.2.2.2.2.1.2.1 J.2.2.2.2.1.2.2.1 (by omega) hp bv]
  have h55 : σ.1 55 (5 * e + p) = -1 := q.2.2.2.1.2 e he p hp
  have mv : qMv σ e p = false := by
    unfold qMv
    rw [h55, decide_eq_false (show ¬ (0 : Int32) ≤ -1 by decide)]; rfl
  obtain ⟨h1, h2⟩ := (nd_is T σ).mp nd e he hd
  have c := (q.2.1 e he hd h1 h2).1 11 (by decide)
  have rn : qVl σ (rI T G (hS T G σ) 0 e false) 11 = vI0 11 := row_none J.1.2.2.r40 (by omega) (by decide) (fun a ha => (Ldc_cg (hS_o (by decide)) 11 a).trans (q.2.2.2.1.1 a ha).2)
  have c11 : σ.1 43 (12 * e + 11) = -1 := c.trans rn
  have pl : qPl σ e p = false := by
    unfold qPl
    rw [c11, decide_eq_false (fun z => absurd z.1 (show ¬ (0 : Int32) ≤ -1 by decide))]; rfl
  unfold qSeen
  rw [mv, pl, if_neg (show ¬ false = true by decide), if_neg (show ¬ (false && _) = true by rw [Bool.false_and]; decide)]
theorem a_seen (hk : V.2.1 < 60000) (h : LQ mm hl dr T G V) (nd : ndB T V.1 = false) (he : e < Tn T) (hd : TD T e = true) (hp : p < 5) : ∃ τ, oC (f_seen (nI e) (nI p)) V = some (TV V.1 0 e p, (τ, V.2.1 + 1, V.2.2)) ∧ LQ mm hl dr T G (τ, V.2.1 + 1, V.2.2) ∧ scE V.1 τ := by
  have J := h.j1
  have h30 := J.1.1.n30
  obtain ⟨τ, e1, z⟩ := a_read hk h
  have s := rd_nd J nd e1
  obtain ⟨qt, ndt⟩ := Q_rd J h.2 hk e1
  obtain ⟨a, σ1, g1, g2, st⟩ := t_seen hk h (nI e) (nI p)
  have st9 : J1 T G τ → f_seen (nI e) (nI p) V.1 = some (TV V.1 0 e p, τ) := fun Jt => by
    unfold f_seen f_seen_40
    rw [r_isElement J.1.2.1 J.1.1, qqx, if_dt (nI_inn he (by omega)), r_in0 (nI p) (n := 5) (by decide) (by decide), qqx, if_dt (nI_inn hp (by decide)), r_inDoc J.1.1 J.1.2.1 he, qqx, hd, if_neg (by decide), r_holds0, qqx, if_pos rfl, e1, qqx, seen_row Jt qt ndt he hd hp, qqx]
    have : TV V.1 0 e p = τ.1 43 (12 * e + p) := by
      unfold TV
      rw [if_pos (show p < 12 by omega), s.2.1 (12 * e + p) (by omega), Nat.mul_zero, Nat.zero_add]
    rw [this]
  have Jt : J1 T G τ := by
    obtain ⟨⟨S, L, A, ex, K, v, nw, w⟩, q⟩ := id h
    obtain ⟨S', K', σ', v', -, e2, -, -, -, -, -, -, -, jp⟩ := w.read hk
    rw [e1] at e2
    cases e2
    obtain ⟨T', G', L', A', ex', K', v', nw', w', p'⟩ := jp S'.2 (Nat.le_refl _)
    rcases p' with ⟨rfl, rfl, -⟩ | ⟨-, rfl, rfl, -⟩
    · exact w'.j1
    · exact w'.j1
  obtain ⟨e3, T', G', ⟨rfl, rfl, e9⟩, l⟩ := oC_ok (t_seen hk h (nI e) (nI p)) (st9 Jt) z
  exact ⟨τ, e3, l, s⟩
end VA
