def sumF (f : Nat → Int32) : List Nat → Int32 → Int32
  | [], a => a
  | x :: r, a => sumF f r (a + f x)
theorem sumF_perm (f : Nat → Int32) {l1 l2 : List Nat} (h : List.Perm l1 l2) : ∀ a, sumF f l1 a = sumF f l2 a := by
  induction h with
  | nil => intro a; rfl
  | cons x _ ih => intro a; exact ih (a + f x)
  | swap x y l =>
    intro a
    show sumF f l (a + f y + f x) = sumF f l (a + f x + f y)
    rw [Int32.add_assoc, Int32.add_comm (f y), ← Int32.add_assoc]
  | trans _ _ ih1 ih2 => intro a; rw [ih1, ih2]
theorem sumF_cg {f g : Nat → Int32} {l : List Nat} (h : ∀ x, x ∈ l → f x = g x) : ∀ a, sumF f l a = sumF g l a := by
  induction l with
  | nil => intro a; rfl
  | cons x r ih =>
    intro a
    show sumF f r (a + f x) = sumF g r (a + g x)
    rw [h x List.mem_cons_self]
    exact ih (fun y hy => h y (List.mem_cons_of_mem _ hy)) _
def tmV (σ : mS) (I : qI) : Int32 := (if qVl σ I 2 = -1000000 then 0 else qVl σ I 2) + 2 * qVl σ I 3
def qSize (T : qqT) (G : qqG) (σ : mS) (ar e : Nat) : Int32 := if σ.1 43 (12 * (30 * ar + e) + 2) = -1000000 then sumF (fun x => tmV σ (rI T G σ ar x true)) (Tfan T e) 0 else σ.1 43 (12 * (30 * ar + e) + 2)
section SZ
variable {T : qqT} {G : qqG} {A : kA} {ex : Nat → Nat → Prop} {K K' : kS} {S : cS} {σ : mS}
theorem qV_cg {σ' : mS} (h : ∀ f, f ∈ [37, 38, 39, 40, 41, 42] → σ'.1 f = σ.1 f) (h2 : σ'.2 50 = σ.2 50) : qVl σ' = qVl σ ∧ qVr σ' = qVr σ ∧ qIm σ' = qIm σ ∧ qHe σ' = qHe σ := by
  have e37 := h 37 (by decide)
  have e38 := h 38 (by decide)
  have e39 := h 39 (by decide)
  have e40 := h 40 (by decide)
  have e41 := h 41 (by decide)
  have e42 := h 42 (by decide)
  have hba : vBa σ' = vBa σ := by funext P v b; unfold vBa; rw [e37, e38]
  have hnd : vNd σ' = vNd σ := by funext v b; unfold vNd; rw [e37]
  have ham : vAm σ' = vAm σ := by funext v b; unfold vAm; rw [e40]
  have hse : vSe σ' = vSe σ := by funext v b; unfold vSe; rw [e41]
  have hsc : vSc σ' = vSc σ := by funext v b; unfold vSc; rw [e41, e42]
  have hkn : vKn σ' = vKn σ := by funext P v b; unfold vKn; rw [hnd, ham, hse, hba]
  have hk3 : vK3 σ' = vK3 σ := by funext P R; unfold vK3; rw [hkn]
  have hsy : vSy σ' = vSy σ := by funext P R s; unfold vSy; rw [hba, hsc]
  have hqv : qVar σ' = qVar σ := by funext P R v; unfold qVar; rw [hsy, hk3]
  have hvr : qVr σ' = qVr σ := by funext I v; unfold qVr; rw [hqv]
  have hun : vUn σ' = vUn σ := by funext V p b; unfold vUn; rw [e37, e38, e40, e41, e42]
  have hhe : qHe σ' = qHe σ := by funext I; unfold qHe; rw [h2]
  have hsz : qSz σ' = qSz σ := by funext I; unfold qSz; rw [hhe, h2, hun, hvr]
  have hvl : qVl σ' = qVl σ := by funext I p; unfold qVl; rw [hsz, hhe, h2, hun, hvr]
  have hlm : Lim σ' = Lim σ := by funext p a; unfold Lim; rw [e39]
  have him : qIm σ' = qIm σ := by funext I p; unfold qIm qImb; rw [hlm]
  exact ⟨hvl, hvr, him, hhe⟩
def rA2 (σ σ' : mS) : Prop := (∀ f, f ∉ [43, 44, 45, 78] → σ'.1 f = σ.1 f) ∧ (∀ i, i < 720 → σ'.1 43 i = σ.1 43 i) ∧ (∀ i, i < 180 → σ'.1 44 i = σ.1 44 i ∧ σ'.1 45 i = σ.1 45 i) ∧ ∀ f, f ≠ 79 → σ'.2 f = σ.2 f
theorem rA2.rf (σ : mS) : rA2 σ σ := ⟨fun _ _ => rfl, fun _ _ => rfl, fun _ _ => ⟨rfl, rfl⟩, fun _ _ => rfl⟩
theorem rA2.tr {a b c : mS} (h : rA2 a b) (k : rA2 b c) : rA2 a c := ⟨fun f hf => (k.1 f hf).trans (h.1 f hf), fun i hi => (k.2.1 i hi).trans (h.2.1 i hi), fun i hi => ⟨(k.2.2.1 i hi).1.trans (h.2.2.1 i hi).1, (k.2.2.1 i hi).2.trans (h.2.2.1 i hi).2⟩, fun f hf => (k.2.2.2 f hf).trans (h.2.2.2 f hf)⟩
theorem rA2.o {x y : mS} (h : rA2 x y) {f : Nat} (hf : f ∉ [43, 44, 45, 78] := by decide) : y.1 f = x.1 f := h.1 f hf
theorem rW.a2 {e : Nat} {x y : mS} (h : rW 2 e x y) (he : e < 30) : rA2 x y := by
  refine ⟨fun f hf => ?_, fun i hi => h.2.2.1 i (by omega), fun i hi => h.2.2.2.1 i (by omega), fun f _ => by rw [h.1]⟩
  by_cases c : f = 47
  · subst c
    funext i
    exact h.2.2.2.2 i (Or.inl (by decide))
  · exact h.2.1 f (fun z => by simp at z hf; omega)
theorem rA2.sB {x y : mS} (h : rA2 x y) : sB [43, 44, 45, 78] [79] x y := ⟨h.1, fun f hf => h.2.2.2 f (by simpa using hf)⟩
theorem rA2.rs {x y : mS} (h : rA2 x y) (r : RS T G x) : RS T G y := ⟨r.1.sB h.sB (by decide) (by decide), r.2.1.sB h.sB (by decide) (by decide), fun e he => by rw [h.o (f := 77)]; exact r.2.2 e he⟩
def PEq (P P' : Option ((Nat → Int32) × (Nat → qP))) : Prop := (P = none ∧ P' = none) ∨ ∃ f g, P = some f ∧ P' = some g ∧ (∀ p, p < 12 → f.1 p = g.1 p) ∧ ∀ v, v < 3 → f.2 v = g.2 v
theorem qVar_cgP {P P' : Option (Nat → qP)} (h : ∀ v, v < 3 → vIn P v = vIn P' v) (R : Nat → Option Nat) (v : Nat) : qVar σ P R v = qVar σ P' R v := by
  have hba : ∀ v, v < 3 → ∀ b, vBa σ P v b = vBa σ P' v b := by
    intro v hv b
    unfold vBa
    rw [h v hv]
  have hkn : ∀ v, v < 3 → ∀ b, vKn σ P v b = vKn σ P' v b := by
    intro v hv b
    unfold vKn
    rw [hba v hv]
  have hk3 : vK3 σ P R = vK3 σ P' R := by
    unfold vK3
    rw [hkn 0 (by decide), hkn 1 (by decide), hkn 2 (by decide)]
  unfold qVar
  rw [hk3]
  unfold vSy
  by_cases c : sRf (vK3 σ P' R) v < 3
  · rw [if_pos c, if_pos c, hba _ c]
  · rw [if_neg c, if_neg c]
theorem qV_cgP {I I' : qI} (h1 : I.1 = I'.1) (h2 : PEq I.2.1 I'.2.1) (h3 : I.2.2 = I'.2.2) : (∀ v, qVr σ I v = qVr σ I' v) ∧ ∀ p, p < 12 → qVl σ I p = qVl σ I' p := by
  have hv : ∀ v, qVr σ I v = qVr σ I' v := by
    intro v
    unfold qVr
    rw [h1]
    refine qVar_cgP (fun w hw => ?_) _ v
    rcases h2 with ⟨g1, g2⟩ | ⟨f, g, g1, g2, -, g4⟩
    · unfold qiV; rw [g1, g2]
    · unfold qiV; rw [g1, g2]; exact g4 w hw
  refine ⟨hv, fun p hp => ?_⟩
  have hv' : qVr σ I = qVr σ I' := funext hv
  have hp' : ∀ q, q < 12 → ∀ a b c w un, vEv (qiP I) a b c w q un = vEv (qiP I') a b c w q un := by
    intro q hq a b c w un
    rcases h2 with ⟨g1, g2⟩ | ⟨f, g, g1, g2, g3, -⟩
    · unfold qiP; rw [g1, g2]
    · have e1 : vPa (qiP I) q = vPa (qiP I') q := by unfold qiP; rw [g1, g2]; exact g3 q hq
      have e2 : vLe (qiP I) = vLe (qiP I') := by unfold qiP; rw [g1, g2]; exact g3 1 (by decide)
      have e3 : vSn (qiP I) w = vSn (qiP I') w := by unfold qiP; rw [g1, g2]; exact g3 2 (by decide)
      have e4 : vTo (qiP I) q a b = vTo (qiP I') q a b := by unfold qiP; rw [g1, g2]; rfl
      unfold vEv
      rw [e1, e2, e3, e4]
  have hh : qHe σ I = qHe σ I' := by unfold qHe; rw [h3]
  have hs : qSz σ I = qSz σ I' := by
    unfold qSz
    rw [hp' 1 (by decide), hv', hh, h1, h3]
  unfold qVl
  rw [hp' p hp, hs, hv', hh, h1, h3]
theorem rI_a2 {σ' : mS} (h : rA2 σ σ') (hw : Tw T) {ar e : Nat} (har : ar < 2) : tmV σ' (rI T G σ' ar e true) = tmV σ (rI T G σ ar e true) := by
  have h30 := hw.n30
  have h50 := h.2.2.2 50 (by decide)
  obtain ⟨q1, -, -, -⟩ := qV_cg (σ := σ) (σ' := σ') (fun f hf => h.1 f (by revert f; decide)) h50
  have e1 : (rI T G σ' ar e true).1 = (rI T G σ ar e true).1 := by
    funext p
    exact (Lfnd_cg (fun f hf => h.1 f (by revert f; decide)) h50 none e p).2
  have e2 : PEq (rI T G σ' ar e true).2.1 (rI T G σ ar e true).2.1 := by
    unfold rI PEq
    cases hs : Tsp T e with
    | none => exact Or.inl ⟨rfl, rfl⟩
    | some y =>
      have hy := (Tsp_cases hw hs).2.1
      exact Or.inr ⟨_, _, rfl, rfl, fun p hp => h.2.1 _ (by omega), fun v hv => Prod.ext (h.2.2.1 _ (by omega)).1 (h.2.2.1 _ (by omega)).2⟩
  have e3 : (rI T G σ' ar e true).2.2 = (rI T G σ ar e true).2.2 := by
    show (σ'.1 43 (360 * ar + 1), none) = (σ.1 43 (360 * ar + 1), none)
    rw [h.2.1 _ (by omega)]
  have q2 := (qV_cgP (σ := σ) e1 e2 e3).2
  unfold tmV
  rw [q1, q2 2 (by decide), q2 3 (by decide)]
theorem rI_ok (hw : Tw T) (hc : RC T G σ) (hd : RDv T G σ) {ar e : Nat} (tr : Bool) (he : e < Tn T) (hP : ∀ y, Tsp T e = some y → ∀ v, v < 3 → okP (rPr σ ar y v)) : qiOK σ (rI T G σ ar e tr) := by
  refine ⟨fun p hp a ha => ?_, fun f hf v hv => ?_⟩
  · obtain ⟨h1, h2, h3⟩ := Lfnd_vr hc he ha
    exact ⟨hd a h1 p hp h2, h1.lt hw hc, h3⟩
  · unfold qiV rI at hf
    cases hs : Tsp T e with
    | none => rw [hs] at hf; cases hf
    | some y => rw [hs] at hf; cases hf; exact hP y hs v hv
theorem r_sized_58 (hw : Tw T) (rs : RS T G σ) (hd : RDv T G σ) {ar e : Nat} (har : ar < 2) {L : List Nat} (hL30 : L.length ≤ 30) (hL : ∀ x ∈ L, Tsp T x = some e ∧ TD T x = true) (hP : ∀ v, v < 3 → okP (rPr σ ar e v)) : ∀ (r : List Nat) (m k : Nat) (a : Int32) (σ1 : mS), rA2 σ σ1 → rowS 78 79 σ1 L → k ≤ L.length → L.drop k = r → r.length < m → ∃ σ2, f_sized_58 m (nI ar) a (nI k) σ1 = some (sumF (fun x => tmV σ (rI T G σ ar x true)) r a, σ2) ∧ rA2 σ σ2 := by
  have h30 := hw.n30
  intro r
  induction r with
  | nil =>
    intro m k a σ1 b hr hk hdr hm
    obtain ⟨m, rfl⟩ : ∃ m', m = m' + 1 := ⟨m - 1, by omega⟩
    have hkl := qqDrop0 hdr
    rw [f_sized_58, hr.1, if_pos (nI_le hkl (by omega))]
    exact ⟨σ1, rfl, b⟩
  | cons x r ih =>
    intro m k a σ1 b hr hk hdr hm
    obtain ⟨m, rfl⟩ : ∃ m', m = m' + 1 := ⟨m - 1, by omega⟩
    obtain ⟨hx, hdr2, hkl⟩ := qqDrop hdr
    have hxL := hL x (List.mem_of_getElem? hx)
    have hxn := (Tsp_cases hw hxL.1).1
    have rs1 := b.rs rs
    have hm' : r.length < m := by
      have : (x :: r).length = r.length + 1 := rfl
      omega
    have h78 : rd σ1 78 (nI k) = some (nI x) := by rw [rd_78 (by omega), hr.2 k x hx]
    rw [f_sized_58, hr.1, if_neg (nI_ge hkl (by omega)), h78, qqx, qqx]
    have hd1 : RDv T G σ1 := fun c hc p hp hl => by
      have e37 := b.o (f := 37)
      have h1 : Ldc σ p c = true := by unfold Ldc at hl ⊢; rw [e37] at hl; exact hl
      have h2 := hd c hc p hp h1
      unfold rOK at h2 ⊢
      rw [e37, b.o (f := 38), b.o (f := 40), b.o (f := 41), b.o (f := 42)]
      exact h2
    have hok := rI_ok (ar := ar) hw rs1.2.1 hd1 true hxn (fun y hy v hv => by
      rw [hxL.1] at hy
      cases hy
      have hen := (Tsp_cases hw hxL.1).2.1
      unfold rPr
      rw [(b.2.2.1 (3 * (30 * ar + e) + v) (by omega)).1, (b.2.2.1 (3 * (30 * ar + e) + v) (by omega)).2]
      exact hP v hv)
    obtain ⟨σ2, e2, w2, -, l2⟩ := r_style (into := 2) hw rs1 (show ar < 3 by omega) (by decide) hxn hxL.2 true hok
    rw [show (2 : Int32) = nI 2 from rfl, show (1 : Int32) = b2 true from rfl, e2, qqx]
    have a2 := b.tr (w2.a2 (by omega))
    have v2 := (l2 2 (by decide) (Or.inl (by decide)) (fun _ => by decide)).1
    have v3 := (l2 3 (by decide) (Or.inl (by decide)) (fun _ => by decide)).1
    have ix : (12 : Int32) * ((60 : Int32) + nI x) = nI (12 * (30 * 2 + x)) := by
      rw [show (60 : Int32) = nI 60 from rfl, show (12 : Int32) = nI 12 from rfl, nI_add, pk_mul]
    have r2 : rd σ2 43 ((12 : Int32) * ((60 : Int32) + nI x) + nI 2) = some (qVl σ1 (rI T G σ1 ar x true) 2) := by
      rw [ix, nI_add, rd_43 (by omega), v2]
    have r3 : rd σ2 43 ((12 : Int32) * ((60 : Int32) + nI x) + 3) = some (qVl σ1 (rI T G σ1 ar x true) 3) := by
      rw [ix, show (3 : Int32) = nI 3 from rfl, nI_add, rd_43 (by omega), v3]
    have hr2 : rowS 78 79 σ2 L := hr.sB w2.sB (by decide) (by decide)
    have etm : tmV σ1 (rI T G σ1 ar x true) = tmV σ (rI T G σ ar x true) := rI_a2 b hw har
    have go : ∀ y, y + (nI 2) * qVl σ1 (rI T G σ1 ar x true) 3 = tmV σ (rI T G σ ar x true) → ∃ σ', f_sized_126 (f_sized_58 m) (nI ar) (nI k) ((12 : Int32) * ((60 : Int32) + nI x)) a y σ2 = some (sumF (fun x => tmV σ (rI T G σ ar x true)) (x :: r) a, σ') ∧ rA2 σ σ' := by
      intro y hy
      unfold f_sized_126
      rw [r3, qqx, nI_1]
      have hy : y + (2 : Int32) * qVl σ1 (rI T G σ1 ar x true) 3 = tmV σ (rI T G σ ar x true) := hy
      rw [hy]
      exact ih m (k + 1) _ σ2 a2 hr2 (by omega) hdr2 hm'
    rw [r2, qqx]
    unfold tmV at etm
    by_cases c : qVl σ1 (rI T G σ1 ar x true) 2 = -1000000
    · rw [if_pos c]
      rw [if_pos c] at etm
      exact go 0 etm
    · rw [if_neg c, qqx]
      rw [if_neg c] at etm
      exact go _ etm
theorem r_sized (hw : Tw T) (rs : RS T G σ) (hd : RDv T G σ) {ar e : Nat} (har : ar < 2) (he : e < Tn T) (hde : TD T e = true) (hP : ∀ v, v < 3 → okP (rPr σ ar e v)) : ∃ σ2, f_sized (nI e) (nI ar) σ = some (if 0 < σ.1 43 (12 * (30 * ar + e) + 6) then qSize T G σ ar e else -1, σ2) ∧ rA2 σ σ2 := by
  have h30 := hw.n30
  unfold f_sized
  rw [ix12, show (6 : Int32) = nI 6 from rfl, nI_add, rd_43 (by omega), qqx]
  by_cases c6 : 0 < σ.1 43 (12 * (30 * ar + e) + 6)
  · rw [if_pos c6, if_pos c6, show (2 : Int32) = nI 2 from rfl, nI_add, rd_43 (by omega), qqx]
    unfold qSize
    by_cases c2 : σ.1 43 (12 * (30 * ar + e) + 2) = -1000000
    · rw [if_pos c2, if_pos c2]
      obtain ⟨σ1, e1, b1, r1⟩ := r_fanOf hw rs.1 he
      rw [e1, qqx]
      have a1 : rA2 σ σ1 := ⟨fun f hf => b1.1 f (fun z => hf (by simp at z; rw [z]; decide)), fun i _ => by rw [b1.1 43 (by decide)], fun i _ => by rw [b1.1 44 (by decide), b1.1 45 (by decide)]; exact ⟨rfl, rfl⟩, fun f hf => b1.2 f (by simpa using hf)⟩
      have hL : ∀ x ∈ Tfan T e, Tsp T x = some e ∧ TD T x = true := fun x hx => by
        have h1 := (Tfan_mem hw).mp hx
        exact ⟨h1, by rw [Tsp_D hw h1]; exact hde⟩
      obtain ⟨σ2, e2, b2⟩ := r_sized_58 hw rs hd har (Tfan_len hw he) hL hP (Tfan T e) 4000 0 0 σ1 a1 r1 (by omega) rfl (by have := Tfan_len hw he; omega)
      exact ⟨σ2, e2, b2⟩
    · rw [if_neg c2, if_neg c2, qqx]
      exact ⟨σ, rfl, rA2.rf σ⟩
  · rw [if_neg c6, if_neg c6]
    exact ⟨σ, rfl, rA2.rf σ⟩
end SZ
