def agr {T : Type} (L : List Nat) (vl : T → Int64) (q : Nat ⊕ T) (thr : Int32) (a : Int64) : Prop := lcd L q = some thr ∧ ∀ x, q = .inr x → vl x = a
theorem lcd_z1 {T : Type} {a : Nat} {q : Nat ⊕ T} {v : Int32} (h : lcd [a] q = some v) (hv : v = 0) : ∃ x, q = .inr x := by
  subst hv
  cases q with
  | inl k => exact absurd (lcd1 h).2 (by decide)
  | inr x => exact ⟨x, rfl⟩
theorem lcd_z2 {T : Type} {a b : Nat} {q : Nat ⊕ T} {v : Int32} (h : lcd [a, b] q = some v) (hv : v = 0) : ∃ x, q = .inr x := by
  subst hv
  cases q with
  | inl k => rcases lcd2 h with h | h <;> exact absurd h.2 (by decide)
  | inr x => exact ⟨x, rfl⟩
theorem lcd_z3 {T : Type} {a b d : Nat} {q : Nat ⊕ T} {v : Int32} (h : lcd [a, b, d] q = some v) (hv : v = 0) : ∃ x, q = .inr x := by
  subst hv
  cases q with
  | inl k => rcases lcd3 h with h | h | h <;> exact absurd h.2 (by decide)
  | inr x => exact ⟨x, rfl⟩
theorem agr_l {T : Type} {L : List Nat} {vl : T → Int64} {k : Nat} {thr : Int32} {a : Int64} (h : lcdL L k 1 = some thr) : agr L vl (.inl k : Nat ⊕ T) thr a := ⟨h, fun _ z => by cases z⟩
theorem agr_r {T : Type} {L : List Nat} {vl : T → Int64} {x : T} {a : Int64} (h : vl x = a) : agr L vl (.inr x : Nat ⊕ T) 0 a := ⟨rfl, fun y z => by cases z; exact h⟩
def JW (k : Nat) (T : qqT) (G : qqG) (L : qqL) (A : kA) (ex : Nat → Nat → Prop) (K : kS) (v nw : Nat) (S : cS) (σ : mS) : Prop := (Tw T ∧ KA A ex K S ∧ kIn A ex K) ∧ A 49 0 = 1 ∧ (v ≤ 30 * k ∧ (nw ≤ 600000 ∧ L.1 = 0) ∧ σ.2 54 = nI nw) ∧ J0 T G L ex K σ v
def JP (P : qqT → qqG → mS → Prop) (k : Nat) (S : cS) (σ : mS) : Prop := ∃ T G L A ex K v nw, JW k T G L A ex K v nw S σ ∧ P T G σ
def pf (T : qqT) (G : qqG) (σ : mS) (P : qqT → qqG → mS → Prop) (T' : qqT) (G' : qqG) (σ' : mS) : Prop := (T' = T ∧ G' = G ∧ ∃ y, y ≠ 0 ∧ σ' = sf σ 81 y) ∨ (σ'.2 81 = 0 ∧ P T' G' σ')
def scE (σ σ' : mS) : Prop := (∀ f, f ∉ scL → f ≠ 43 → f ≠ 44 → f ≠ 45 → f ≠ 46 → σ'.1 f = σ.1 f) ∧ (∀ i, i < 360 → σ'.1 43 i = σ.1 43 i) ∧ (∀ i, i < 90 → σ'.1 44 i = σ.1 44 i ∧ σ'.1 45 i = σ.1 45 i) ∧ (∀ i, i < 30 → σ'.1 46 i = σ.1 46 i) ∧ ∀ f, f ∉ scN → σ'.2 f = σ.2 f
def P_sc (T : qqT) (G : qqG) (σ : mS) (T' : qqT) (G' : qqG) (σ' : mS) : Prop := T' = T ∧ G' = G ∧ scE σ σ'
def P_rd (T : qqT) (G : qqG) (σ : mS) (T' : qqT) (G' : qqG) (σ' : mS) : Prop := T' = T ∧ G' = G ∧ f_read (sf σ 81 0) = some σ'
theorem scE.of {σ σ' : mS} (b : sB scL scN σ σ') : scE σ σ' := ⟨fun f h _ _ _ _ => b.1 f h, fun i _ => by rw [b.1 43 (by decide)], fun i _ => by rw [b.1 44 (by decide), b.1 45 (by decide)]; exact ⟨rfl, rfl⟩, fun i _ => by rw [b.1 46 (by decide)], b.2⟩
theorem scE.rf (σ : mS) : scE σ σ := scE.of (sB.rf σ)
theorem scE.tr {a b c : mS} (h : scE a b) (k : scE b c) : scE a c := ⟨fun f h1 h2 h3 h4 h5 => (k.1 f h1 h2 h3 h4 h5).trans (h.1 f h1 h2 h3 h4 h5), fun i hi => (k.2.1 i hi).trans (h.2.1 i hi), fun i hi => ⟨(k.2.2.1 i hi).1.trans (h.2.2.1 i hi).1, (k.2.2.1 i hi).2.trans (h.2.2.1 i hi).2⟩, fun i hi => (k.2.2.2.1 i hi).trans (h.2.2.2.1 i hi), fun f hf => (k.2.2.2.2 f hf).trans (h.2.2.2.2 f hf)⟩
theorem scE.sy {a b : mS} (h : scE a b) : scE b a := ⟨fun f h1 h2 h3 h4 h5 => (h.1 f h1 h2 h3 h4 h5).symm, fun i hi => (h.2.1 i hi).symm, fun i hi => ⟨(h.2.2.1 i hi).1.symm, (h.2.2.1 i hi).2.symm⟩, fun i hi => (h.2.2.2.1 i hi).symm, fun f hf => (h.2.2.2.2 f hf).symm⟩
theorem JP.mono {P Q : qqT → qqG → mS → Prop} {k : Nat} {S : cS} {σ : mS} (h : JP P k S σ) (i : ∀ T G, P T G σ → Q T G σ) : JP Q k S σ := by
  obtain ⟨T, G, L, A, ex, K, v, nw, w, p⟩ := h
  exact ⟨T, G, L, A, ex, K, v, nw, w, i T G p⟩
theorem scR_sf (σ : mS) (y : Int32) : sB scL scN σ (sf σ 81 y) := ⟨fun _ _ => rfl, fun f hf => sf_o (fun z => hf (by rw [z]; decide))⟩
theorem in_lt (x : Int32) {n : Nat} (hn : n < 2 ^ 31) : decide (0 ≤ x ∧ x ≤ nI n - 1) = decide (0 ≤ x ∧ x < nI n) := by
  have e : (nI n - 1).toInt = (n : Int) - 1 := by
    rw [Int32.toInt_sub, nI_toInt hn, show (1 : Int32).toInt = 1 by decide, Int.bmod_eq_of_le (by omega) (by omega)]
  have : x ≤ nI n - 1 ↔ x < nI n := by
    rw [Int32.le_iff_toInt_le, Int32.lt_iff_toInt_lt, e, nI_toInt hn]
    omega
  exact decide_eq_decide.mpr (and_congr_right fun _ => this)
theorem ix_cases (x : Int32) {n : Nat} (hn : n < 2 ^ 31) : (∃ e, e < n ∧ x = nI e) ∨ ¬ (0 ≤ x ∧ x < nI n) := by
  by_cases h : 0 ≤ x ∧ x < nI n
  · left
    obtain ⟨h0, h1⟩ := h
    rw [Int32.le_iff_toInt_le, show (0 : Int32).toInt = 0 by decide] at h0
    rw [Int32.lt_iff_toInt_lt, nI_toInt hn] at h1
    refine ⟨x.toInt.toNat, by omega, Int32.toInt_inj.mp ?_⟩
    rw [nI_toInt (by omega)]
    omega
  · exact Or.inr h
theorem r_holds0 (σ : mS) : f_holds 0 σ = some (0, sf σ 81 0) := by
  unfold f_holds; rw [if_pos (by decide)]; rfl
theorem r_holds1 (σ : mS) : f_holds 1 σ = some (1, sf σ 81 1) := by
  unfold f_holds; rw [if_neg (by decide)]; rfl
theorem r_holds2 (σ : mS) : f_holds 2 σ = some (1, sf σ 81 2) := by
  unfold f_holds; rw [if_neg (by decide)]; rfl
theorem r_holds3 (σ : mS) : f_holds 3 σ = some (1, sf σ 81 3) := by
  unfold f_holds; rw [if_neg (by decide)]; rfl
def sJR (L : List Nat) (vl : Int32 → Int64) (J1 : cS → mS → Prop) (f : Option ((Nat ⊕ Int32) × cS)) (g : Option (Int32 × mS)) : Prop := ∃ q r, f = some q ∧ g = some r ∧ agr L vl q.1 (r.2.2 81) (vl r.1) ∧ ∀ n, q.2.2 ≤ n → J1 (q.2.1, n) r.2
def sJU {T : Type} (L : List Nat) (J1 : cS → mS → Prop) (f : Option ((Nat ⊕ T) × cS)) (g : Option mS) : Prop := ∃ q r, f = some q ∧ g = some r ∧ lcd L q.1 = some (r.2 81) ∧ ∀ n, q.2.2 ≤ n → J1 (q.2.1, n) r
theorem at49 {A : kA} {P : Nat → Prop} (h : A 49 0 = 1) (hp : P (A 49 0)) : P 1 := h ▸ hp
theorem sJR.l {L : List Nat} {vl : Int32 → Int64} {J1 : cS → mS → Prop} {c : Nat} {S : cS} {x y : Int32} {σ : mS} (h : lcdL L c 1 = some y) (k : ∀ n, S.2 ≤ n → J1 (S.1, n) (sf σ 81 y)) : sJR L vl J1 (some (.inl c, S)) (some (x, sf σ 81 y)) := ⟨_, _, rfl, rfl, agr_l (by rw [sf_s]; exact h), k⟩
theorem sJR.r {L : List Nat} {vl : Int32 → Int64} {J1 : cS → mS → Prop} {S : cS} {x y : Int32} {σ : mS} (h : vl x = vl y) (h0 : σ.2 81 = 0) (k : ∀ n, S.2 ≤ n → J1 (S.1, n) σ) : sJR L vl J1 (some (.inr x, S)) (some (y, σ)) := ⟨_, _, rfl, rfl, by rw [h0]; exact agr_r h, k⟩
theorem if_dt {α : Sort _} {c : Prop} [Decidable c] (h : c) (X Y : α) : (if b2 (decide c) = (0 : Int32) then X else Y) = Y := by rw [b2_i0, if_pos (decide_eq_true h)]
theorem if_df {α : Sort _} {c : Prop} [Decidable c] (h : ¬ c) (X Y : α) : (if b2 (decide c) = (0 : Int32) then X else Y) = X := by rw [b2_i0, decide_eq_false h, if_neg (by decide)]
theorem nI_inn {e n : Nat} (he : e < n) (hn : n < 2 ^ 31) : (0 : Int32) ≤ nI e ∧ nI e < nI n := ⟨Int32.not_lt.mp (nI_pos (by omega)), nI_lt he hn⟩
theorem rz_b2 (b : Bool) : rz (b2 b) = some (b2 b) := by cases b <;> rfl
theorem rzw_b2 (b : Bool) (σ : mS) : rzw (b2 b) σ = some (b2 b, σ) := by cases b <;> rfl
theorem lrzt_b2 (b : Bool) (S : cS) : lrzt (b2 b) S = some (.inr (b2 b), S) := by cases b <;> rfl
theorem lvZ_b2 (b : Bool) : lvZ (b2 b) = lvZ (b2 b) := rfl
section SIM
variable {T : qqT} {G : qqG} {L : qqL} {A : kA} {ex : Nat → Nat → Prop} {K K' : kS} {S S' : cS} {σ σ' : mS} {v v' nw k : Nat}
theorem r_isElement (hr : RT T σ) (hw : Tw T) (x : Int32) : f_isElement x σ = some (b2 (decide (0 ≤ x ∧ x < nI (Tn T)))) := by
  have h30 := hw.n30
  unfold f_isElement
  rw [hr.1, r_in, qqx, in_lt x (by omega), rz_b2]
theorem c_elementAt (hw : Tw T) (q : KQ T ex K) (hA : KA A ex K S) {e : Nat} (he : e < Tn T) : f_X11_elementAt (A 49 0) (nI e) S = some (.inr (some (A 0 e)), S) := by
  unfold f_X11_elementAt
  rw [q.2.1.trees hA, qqx, hA.Rc 50 10 (q.2.1.x (by decide) (by decide) (by decide)) rfl, qqx, c_at hw q.1 hA he, qqx, if_neg (fun z => by cases z)]
theorem c_elementN (hw : Tw T) (q : KQ T ex K) (hA : KA A ex K S) {x : Int32} (hx : ¬ (0 ≤ x ∧ x < nI (Tn T))) : f_X11_elementAt (A 49 0) x S = some (.inl 2, S) := by
  unfold f_X11_elementAt
  rw [q.2.1.trees hA, qqx, hA.Rc 50 10 (q.2.1.x (by decide) (by decide) (by decide)) rfl, qqx, c_atN hw q.1 hA hx, qqx, if_pos rfl]
theorem JW.to {P : qqT → qqG → mS → Prop} (w : JW k T G L A ex K v nw S σ) (hA : KA A ex K' S') (hin : kIn A ex K') (j : J0 T G L ex K' σ' v') (hv : v' ≤ v + 30) (h54 : σ'.2 54 = σ.2 54) (hp : P T G σ') : ∀ n, S'.2 ≤ n → JP P (k + 1) (S'.1, n) σ' := by
  intro n hn
  obtain ⟨⟨w1, w2, w3⟩, w4, ⟨w5, w6, w7⟩, w8⟩ := w
  exact ⟨T, G, L, A, ex, K', v', nw, ⟨⟨w1, hA.mono hn, hin⟩, w4, ⟨by omega, w6, h54.trans w7⟩, j⟩, hp⟩
theorem JW.no {P : qqT → qqG → mS → Prop} (w : JW k T G L A ex K v nw S σ) (y : Int32) (hy : y ≠ 0 := by decide) : ∀ n, S.2 ≤ n → JP (pf T G σ P) (k + 1) (S.1, n) (sf σ 81 y) :=
  w.to w.1.2.1 w.1.2.2 (w.2.2.2.scR (scR_sf σ y)) (by omega) (sf_o (by decide)) (Or.inl ⟨rfl, rfl, y, hy, rfl⟩)
theorem JW.ok {P : qqT → qqG → mS → Prop} (w : JW k T G L A ex K v nw S σ) (hp : P T G (sf σ 81 0)) : ∀ n, S.2 ≤ n → JP (pf T G σ P) (k + 1) (S.1, n) (sf σ 81 0) :=
  w.to w.1.2.1 w.1.2.2 (w.2.2.2.scR (scR_sf σ 0)) (by omega) (sf_o (by decide)) (Or.inr ⟨sf_s _ _ _, hp⟩)
theorem JW.sc (w : JW k T G L A ex K v nw S σ) : ∀ n, S.2 ≤ n → JP (pf T G σ (P_sc T G σ)) (k + 1) (S.1, n) (sf σ 81 0) := w.ok ⟨rfl, rfl, scE.of (scR_sf σ 0)⟩
theorem JW.rcs (w : JW k T G L A ex K v nw S σ) : rc S (some 1) 11 = some 1 := by
  have := w.2.2.2.1.1.2.1.r11 w.1.2.1
  rw [w.2.1] at this
  exact this
theorem sq_ints (w : JW k T G L A ex K v nw S σ) : f_X11_flushes 1 S = some (σ.2 51) ∧ f_X11_restyled 1 S = some (σ.2 52) ∧ f_X11_shared 1 S = some (σ.2 53) ∧ f_X11_marked 1 S = f_marked σ ∧ f_marked σ = some (σ.2 49 &&& qqM (TD T) (Tn T)) := by
  obtain ⟨⟨hw, hA, hin⟩, h49, -, j⟩ := w
  have p9 := j.1.1.2.1
  have mk := j.2.2.2.2.1
  have fm : f_marked σ = some (σ.2 49 &&& qqM (TD T) (Tn T)) := by
    unfold f_marked
    rw [r_docMask hw j.1.2.2.2, qqx]
  refine ⟨?_, ?_, ?_, ?_, fm⟩
  · refine at49 (P := fun x => f_X11_flushes x S = _) h49 ?_
    unfold f_X11_flushes; rw [p9.I49 hA, qqx, mk.2.2.1]
  · refine at49 (P := fun x => f_X11_restyled x S = _) h49 ?_
    unfold f_X11_restyled; rw [p9.I49 hA, qqx, mk.2.2.2.1]
  · refine at49 (P := fun x => f_X11_shared x S = _) h49 ?_
    unfold f_X11_shared; rw [p9.I49 hA, qqx, mk.2.2.2.2]
  · rw [fm]
    refine at49 (P := fun x => f_X11_marked x S = _) h49 ?_
    unfold f_X11_marked; rw [p9.I49 hA, qqx, p9.trees hA, qqx, p9.I50 hA, qqx]
    have h30 := hw.n30
    refine congrArg some (b_ext fun e he => ?_)
    rw [b_and, b_and, j.1.1.2.2.1.2.1, qqM_bt _ _ (by omega) e he]
    by_cases c : e < Tn T
    · rw [decide_eq_true c, Bool.true_and]
      cases hd : TD T e with
      | true => rw [mk.2.1 e c hd]
      | false => rw [Bool.and_false, Bool.and_false]
    · rw [decide_eq_false c, Bool.false_and, Bool.and_false, Bool.and_false]
end SIM
