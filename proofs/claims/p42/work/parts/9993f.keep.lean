section QF
variable {T T' : qqT} {G : qqG} {σ σ' : mS} {e : Nat}
def hS (T : qqT) (G : qqG) (σ : mS) : mS := (fun f => if f = 74 then (fun r => qMs T σ (Gsh G (Gsf G r)) (Gse G r)) else σ.1 f, σ.2)
theorem hS_o {f : Nat} (h : f ≠ 74 := by decide) : (hS T G σ).1 f = σ.1 f := if_neg h
theorem hS_74 (r : Nat) : (hS T G σ).1 74 r = qMs T σ (Gsh G (Gsf G r)) (Gse G r) := rfl
def cons (T : qqT) (G : qqG) (σ : mS) (e : Nat) : Prop := (∀ p, p < 12 → σ.1 43 (12 * e + p) = qVl σ (rI T G (hS T G σ) 0 e false) p) ∧ ∀ v, v < 3 → (σ.1 44 (3 * e + v), σ.1 45 (3 * e + v)) = qVr σ (rI T G (hS T G σ) 0 e false) v
def szOK (T : qqT) (G : qqG) (σ : mS) (e : Nat) : Prop := 0 < σ.1 43 (12 * e + 6) → σ.1 46 e = qSize T G (hS T G σ) 0 e
def rEq (σ σ' : mS) (y : Nat) : Prop := (∀ p, p < 12 → σ'.1 43 (12 * y + p) = σ.1 43 (12 * y + p)) ∧ ∀ v, v < 3 → σ'.1 44 (3 * y + v) = σ.1 44 (3 * y + v) ∧ σ'.1 45 (3 * y + v) = σ.1 45 (3 * y + v)
theorem rEq.rf (σ : mS) (y : Nat) : rEq σ σ y := ⟨fun _ _ => rfl, fun _ _ => ⟨rfl, rfl⟩⟩
def keepE (T T' : qqT) (G : qqG) (σ σ' : mS) (e : Nat) : Prop := fEq G σ σ' e ∧ lEq T T' G (hS T G σ) (hS T' G σ') e ∧ Tsp T' e = Tsp T e ∧ hsz T' σ' 0 e = hsz T σ 0 e
theorem PEq_rows {o : Option Nat} (h : ∀ y, o = some y → rEq σ σ' y) : PEq (o.map (fun y => ((fun p => σ'.1 43 (12 * (30 * 0 + y) + p)), (fun v => (σ'.1 44 (3 * (30 * 0 + y) + v), σ'.1 45 (3 * (30 * 0 + y) + v)))))) (o.map (fun y => ((fun p => σ.1 43 (12 * (30 * 0 + y) + p)), (fun v => (σ.1 44 (3 * (30 * 0 + y) + v), σ.1 45 (3 * (30 * 0 + y) + v)))))) := by
  cases o with
  | none => exact Or.inl ⟨rfl, rfl⟩
  | some y =>
    refine Or.inr ⟨_, _, rfl, rfl, fun p hp => ?_, fun v hv => ?_⟩
    · have := (h y rfl).1 p hp
      show σ'.1 43 (12 * (30 * 0 + y) + p) = σ.1 43 (12 * (30 * 0 + y) + p)
      rw [ix0]; exact this
    · have := (h y rfl).2 v hv
      show (σ'.1 44 (3 * (30 * 0 + y) + v), σ'.1 45 (3 * (30 * 0 + y) + v)) = (σ.1 44 (3 * (30 * 0 + y) + v), σ.1 45 (3 * (30 * 0 + y) + v))
      rw [ix0, this.1, this.2]
theorem fEq.hS (h : fEq G σ σ' e) : fEq G (hS T G σ) (hS T' G σ') e := by
  refine ⟨⟨fun a ha => ?_, fun f hf => ?_⟩, fun a ha p hp f hf => ?_, h.2.2⟩
  · rw [hS_o, hS_o]; exact h.1.1 a ha
  · have : f ≠ 74 := fun z => by rw [z] at hf; revert hf; decide
    rw [hS_o this, hS_o this]; exact h.1.2 f hf
  · have : f ≠ 74 := fun z => by rw [z] at hf; revert hf; decide
    rw [hS_o this, hS_o this]; exact h.2.1 a ha p hp f hf
theorem hsz_hS (ar e : Nat) : hsz T (hS T G σ) ar e = hsz T σ ar e := by
  unfold hsz
  have e1 : Hv (hS T G σ) ar = Hv σ ar := by funext x; unfold Hv; rw [hS_o]
  rw [e1, hS_o]
theorem rI_hS (e : Nat) (tr : Bool) : rI T G (hS T G σ) 0 e tr = (fun p => Lfnd T G (hS T G σ) (if tr then none else hsz T σ 0 e) e p, (Tsp T e).map (fun y => ((fun p => σ.1 43 (12 * (30 * 0 + y) + p)), (fun v => (σ.1 44 (3 * (30 * 0 + y) + v), σ.1 45 (3 * (30 * 0 + y) + v))))), σ.1 43 1, if tr then none else hsz T σ 0 e) := by
  unfold rI
  rw [hsz_hS, hS_o (f := 43), hS_o (f := 44), hS_o (f := 45)]
theorem rI_keep (h40 : Gr G ≤ 40) (k1 : fEq G σ σ' e) (k2 : lEq T T' G (hS T G σ) (hS T' G σ') e) (hsp : Tsp T' e = Tsp T e) {tr : Bool} (hho : tr = false → hsz T' σ' 0 e = hsz T σ 0 e) (hr : ∀ y, Tsp T e = some y → rEq σ σ' y) (h0 : Tsp T e ≠ none → σ'.1 43 1 = σ.1 43 1) : (∀ v, qVr σ' (rI T' G (hS T' G σ') 0 e tr) v = qVr σ (rI T G (hS T G σ) 0 e tr) v) ∧ ∀ p, p < 12 → qVl σ' (rI T' G (hS T' G σ') 0 e tr) p = qVl σ (rI T G (hS T G σ) 0 e tr) p := by
  have ho : (if tr then none else hsz T' σ' 0 e) = (if tr then none else hsz T σ 0 e) := by
    cases tr with
    | true => rw [if_pos rfl, if_pos rfl]
    | false => rw [if_neg (by decide), if_neg (by decide)]; exact hho rfl
  have lf : ∀ p, p < 15 → ∀ o, Lfnd T' G (hS T' G σ') o e p = Lfnd T G (hS T G σ) o e p ∧ ∀ a, Lfnd T G (hS T G σ) o e p = some a → rwE G e a := fun p hp o => Lfnd_cgT h40 k1.hS k2 hp
  rw [rI_hS, rI_hS]
  refine qV_loc (fun p hp => ?_) ?_ (fun z => h0 (fun w => z ?_)) ho (fun p hp a ha f hf => ?_) k1.2.2
  · show Lfnd T' G (hS T' G σ') (if tr then none else hsz T' σ' 0 e) e p = Lfnd T G (hS T G σ) (if tr then none else hsz T σ 0 e) e p
    rw [ho]; exact (lf p hp _).1
  · rw [hsp]
    exact PEq_rows hr
  · rw [w]; rfl
  · exact k1.2.1 a ((lf p hp _).2 a ha) p hp f (by revert f; decide)
theorem cons_keep (h40 : Gr G ≤ 40) (k : keepE T T' G σ σ' e) (ho : rEq σ σ' e) (hr : ∀ y, Tsp T e = some y → rEq σ σ' y) (h0 : Tsp T e ≠ none → σ'.1 43 1 = σ.1 43 1) (c : cons T G σ e) : cons T' G σ' e := by
  obtain ⟨c1, c2⟩ := rI_keep (tr := false) h40 k.1 k.2.1 k.2.2.1 (fun _ => k.2.2.2) hr h0
  refine ⟨fun p hp => ?_, fun v hv => ?_⟩
  · rw [c2 p hp, ho.1 p hp]; exact c.1 p hp
  · rw [c1 v, (ho.2 v hv).1, (ho.2 v hv).2]; exact c.2 v hv
theorem tm_hS (I : qI) : tmV (hS T G σ) I = tmV σ I := by
  unfold tmV
  rw [(qV_cg (σ := σ) (σ' := hS T G σ) (fun f hf => hS_o (fun z => by rw [z] at hf; revert hf; decide)) rfl).1]
theorem size_keep (hw : Tw T) (hw' : Tw T') (hn : e < Tn T) (hn' : e < Tn T') (h40 : Gr G ≤ 40) (hf : ∀ x, Tsp T' x = some e ↔ Tsp T x = some e) (hk : ∀ x, Tsp T x = some e → fEq G σ σ' x ∧ lEq T T' G (hS T G σ) (hS T' G σ') x) (ho : rEq σ σ' e) (h46 : σ'.1 46 e = σ.1 46 e) (h0 : σ'.1 43 1 = σ.1 43 1) (c : szOK T G σ e) : szOK T' G σ' e := by
  intro hp
  rw [ho.1 6 (by decide)] at hp
  rw [h46, c hp]
  unfold qSize
  have r2 : (hS T' G σ').1 43 (12 * (30 * 0 + e) + 2) = (hS T G σ).1 43 (12 * (30 * 0 + e) + 2) := by
    rw [ix0]; exact ho.1 2 (by decide)
  rw [r2]
  by_cases z : (hS T G σ).1 43 (12 * (30 * 0 + e) + 2) = -1000000
  · rw [if_pos z, if_pos z]
    have hmem : ∀ x, x ∈ Tfan T' e ↔ x ∈ Tfan T e := fun x => by
      rw [Tfan_mem hw', Tfan_mem hw]
      exact hf x
    have pm : (Tfan T e).Perm (Tfan T' e) := (List.perm_ext_iff_of_nodup (Tfan_nodup hw e hn) (Tfan_nodup hw' e hn')).mpr (fun x => (hmem x).symm)
    rw [sumF_perm _ pm]
    refine sumF_cg (fun x hx => ?_) 0
    have sx := (Tfan_mem hw).mp ((hmem x).mp hx)
    have sx' := (Tfan_mem hw').mp hx
    rw [tm_hS, tm_hS]
    obtain ⟨k1, k2⟩ := hk x sx
    obtain ⟨c1, c2⟩ := rI_keep (tr := true) h40 k1 k2 (sx'.trans sx.symm) (fun z => by cases z) (fun y hy => by rw [sx] at hy; cases hy; exact ho) (fun _ => h0)
    unfold tmV
    rw [c2 2 (by decide), c2 3 (by decide)]
  · rw [if_neg z, if_neg z]
theorem Tho_keep (hw : Tw T) (hw' : Tw T') (hn' : Tn T' = Tn T) {H : Nat → Bool} {P : Nat → Prop} (hP : ∀ e, e < Tn T → P e → Tsp T' e = Tsp T e ∧ ∀ y, Tsp T e = some y → P y) : ∀ e, e < Tn T → P e → Tho T' H e = Tho T H e := by
  obtain ⟨ν, -, hν⟩ := Tsp_rk hw
  intro e
  refine qqInd (st := fun e => if e < Tn T then Tsp T e else none) (μ := ν) (P := fun e => e < Tn T → P e → Tho T' H e = Tho T H e) ?_ e
  intro e ih he hp
  obtain ⟨h1, h2⟩ := hP e he hp
  rw [Tho_eq hw H he, Tho_eq hw' H (by omega), h1]
  cases hs : Tsp T e with
  | none => rfl
  | some y =>
    have hy := (Tsp_cases hw hs).2.1
    have := ih y (by rw [if_pos he]; exact hs) (hν e y he hs) hy (h2 y hs)
    show (if H y = true then some y else Tho T' H y) = (if H y = true then some y else Tho T H y)
    rw [this]
end QF
