abbrev qqG : Type := Nat × Nat × Nat × Nat × (Nat → Nat) × (Nat → Nat) × (Nat → Option Nat) × (Nat → Nat)
abbrev Gs (G : qqG) : Nat := G.1
abbrev Gk (G : qqG) : Nat := G.2.1
abbrev Gr (G : qqG) : Nat := G.2.2.1
abbrev Gl (G : qqG) : Nat := G.2.2.2.1
abbrev Gse (G : qqG) : Nat → Nat := G.2.2.2.2.1
abbrev Gsf (G : qqG) : Nat → Nat := G.2.2.2.2.2.1
abbrev Gsh (G : qqG) : Nat → Option Nat := G.2.2.2.2.2.2.1
abbrev Gc (G : qqG) : Nat → Nat := G.2.2.2.2.2.2.2
def RC (T : qqT) (G : qqG) (σ : mS) : Prop :=
  σ.2 31 = nI (Gk G) ∧ Gk G ≤ 8 ∧ (∀ k, k < Gk G → σ.1 28 k = qqO (Gsh G k) ∧ (∀ h, Gsh G k = some h → h < Tn T ∧ Ts T h = true) ∧ (∃ o, o < 3 ∧ σ.1 27 k = nI o) ∧ (σ.1 29 k = -1 ∨ ∃ l, l < 4 ∧ σ.1 29 k = nI l) ∧ ∃ b, σ.1 30 k = b2 b) ∧
  σ.2 36 = nI (Gr G) ∧ Gr G ≤ 40 ∧ (∀ r, r < Gr G → σ.1 32 r = nI (Gsf G r) ∧ Gsf G r < Gk G ∧ σ.1 33 r = nI (Gse G r) ∧ Gse G r < Gs G) ∧ Gs G ≤ 30
def VR (T : qqT) (G : qqG) (a : Nat) : Prop := a < Gr G ∨ (40 ≤ a ∧ a < 40 + Tn T)
def agS (im : Bool) (r1 r2 d1 d2 : Int32) (o1 o2 : Bool) (l1 l2 w1 w2 s1 s2 n1 n2 : Int32) : Int32 :=
  if r1 = r2 then (if d1 = d2 then (if o1 = true ∨ o2 = true then (if o1 = true then 3 else -3) else
    if l1 = l2 then (if w1 = w2 then (if s1 = s2 then (if n1 ≤ n2 then -6 else 6) else if s1 ≤ s2 then -6 else 6) else if w1 ≤ w2 then -5 else 5)
    else if decide (l2 < l1) = im then -4 else 4) else if decide (d1 < d2) = im then -2 else 2) else if r1 ≤ r2 then -1 else 1
theorem qqx {α β : Type} (a : α) (f : α → Option β) : (some a).bind f = f a := Eq.trans (Eq.refl _) (Eq.refl _)
section RC
variable {T : qqT} {G : qqG} {σ : mS}
theorem RC.k8 (h : RC T G σ) : Gk G ≤ 8 := h.2.1
theorem RC.r40 (h : RC T G σ) : Gr G ≤ 40 := h.2.2.2.2.1
theorem RC.s30 (h : RC T G σ) : Gs G ≤ 30 := h.2.2.2.2.2.2
theorem RC.rn (h : RC T G σ) : σ.2 36 = nI (Gr G) := h.2.2.2.1
theorem RC.f (h : RC T G σ) {r : Nat} (hr : r < Gr G) : rd σ 32 (nI r) = some (nI (Gsf G r)) ∧ Gsf G r < Gk G := by
  have := h.r40
  rw [rd_32 (by omega), (h.2.2.2.2.2.1 r hr).1]
  exact ⟨rfl, (h.2.2.2.2.2.1 r hr).2.1⟩
theorem RC.e (h : RC T G σ) {r : Nat} (hr : r < Gr G) : rd σ 33 (nI r) = some (nI (Gse G r)) ∧ Gse G r < Gs G := by
  have := h.r40
  rw [rd_33 (by omega), (h.2.2.2.2.2.1 r hr).2.2.1]
  exact ⟨rfl, (h.2.2.2.2.2.1 r hr).2.2.2⟩
theorem RC.h (h : RC T G σ) {k : Nat} (hk : k < Gk G) : rd σ 28 (nI k) = some (qqO (Gsh G k)) := by
  have := h.k8
  rw [rd_28 (by omega), (h.2.2.1 k hk).1]
theorem RC.hn (h : RC T G σ) {k x : Nat} (hk : k < Gk G) (hx : Gsh G k = some x) : x < Tn T ∧ Ts T x = true := (h.2.2.1 k hk).2.1 x hx
theorem RC.sB {σ' : mS} {L1 L2 : List Nat} (h : RC T G σ) (k : sB L1 L2 σ σ') (h1 : ∀ x ∈ [27, 28, 29, 30, 32, 33], x ∉ L1) (h2 : ∀ x ∈ [31, 36], x ∉ L2) : RC T G σ' := by
  unfold RC at h ⊢
  rw [k.1 27 (h1 27 (by simp)), k.1 28 (h1 28 (by simp)), k.1 29 (h1 29 (by simp)), k.1 30 (h1 30 (by simp)), k.1 32 (h1 32 (by simp)), k.1 33 (h1 33 (by simp)), k.2 31 (h2 31 (by simp)), k.2 36 (h2 36 (by simp))]
  exact h
theorem RC.ru (h : RC T G σ) : RU σ (Gr G) (Gse G) := ⟨h.rn, h.r40, fun r hr => ⟨(h.2.2.2.2.2.1 r hr).2.2.1, by have := (h.e hr).2; have := h.s30; omega⟩⟩
def Lor (G : qqG) (σ : mS) (a : Nat) : Int32 := if a < 40 then σ.1 27 (Gsf G a) else 2
def Lim (σ : mS) (p a : Nat) : Bool := decide (σ.1 39 (16 * a + p) = 1)
def Lrk (G : qqG) (σ : mS) (p a : Nat) : Int32 := if Lim σ p a then 5 - Lor G σ a else Lor G σ a
def dpo (T : qqT) (o : Option Nat) : Int32 := match o with
  | none => 0
  | some h => nI (TL T h + 1)
def Ldp (T : qqT) (G : qqG) (a : Nat) : Int32 := if a < 40 then dpo T (Gsh G (Gsf G a)) else nI (TL T (a - 40))
def Lly (G : qqG) (σ : mS) (a : Nat) : Int32 := if σ.1 29 (Gsf G a) < 0 then 4 else σ.1 29 (Gsf G a)
def Lag (T : qqT) (G : qqG) (σ : mS) (p a b : Nat) : Int32 := agS (Lim σ p a) (Lrk G σ p a) (Lrk G σ p b) (Ldp T G a) (Ldp T G b) (decide (40 ≤ a)) (decide (40 ≤ b)) (Lly G σ a) (Lly G σ b) (σ.1 20 (Gse G a)) (σ.1 20 (Gse G b)) (nI (Gsf G a)) (nI (Gsf G b)) (nI a) (nI b)
theorem VR.lt (hw : Tw T) (hc : RC T G σ) {a : Nat} (h : VR T G a) : a < 70 := by
  have := hw.n30
  have := hc.r40
  unfold VR at h
  omega
theorem dv16 {a p : Nat} (ha : a < 70) (hp : p < 16) : dv (nI (16 * a + p)) (16 : Int32) = some (nI a) := by
  unfold dv
  rw [if_neg (by decide), show (16 : Int32) = nI 16 from rfl, pk_div (by omega) (by decide) (by decide), show (16 * a + p) / 16 = a by omega]
theorem r640 {a p : Nat} (ha : a < 70) (hp : p < 16) : ((640 : Int32) ≤ nI (16 * a + p)) = (40 ≤ a) := by
  rw [show (640 : Int32) = nI 640 from rfl, nI_leE (by decide) (by omega)]
  exact propext ⟨fun h => by omega, fun h => by omega⟩
theorem r640' {a p : Nat} (ha : a < 70) (hp : p < 16) : (nI (16 * a + p) < (640 : Int32)) = (a < 40) := by
  rw [show (640 : Int32) = nI 640 from rfl, nI_ltE (by omega) (by decide)]
  exact propext ⟨fun h => by omega, fun h => by omega⟩
theorem r_originOf (hw : Tw T) (hc : RC T G σ) {a p : Nat} (ha : VR T G a) (hp : p < 16) : f_originOf (nI (16 * a + p)) σ = some (Lor G σ a) := by
  have h70 := ha.lt hw hc
  have h8 := hc.k8
  unfold f_originOf Lor
  by_cases h40 : a < 40
  · have har : a < Gr G := by unfold VR at ha; omega
    rw [if_neg (by rw [r640 h70 hp]; omega), if_pos h40, dv16 h70 hp]
    simp only [qqb]
    rw [(hc.f har).1]
    simp only [qqb]
    rw [rd_27 (by have := (hc.f har).2; omega)]
    rfl
  · rw [if_pos (by rw [r640 h70 hp]; omega), if_neg h40]
    rfl
theorem r_rank (hw : Tw T) (hc : RC T G σ) {a p : Nat} (ha : VR T G a) (hp : p < 16) : f_rank (nI (16 * a + p)) σ = some (Lrk G σ p a) := by
  have h70 := ha.lt hw hc
  unfold f_rank Lrk Lim
  rw [rd_39 (by omega), r_originOf hw hc ha hp]
  simp only [qqb]
  by_cases h : σ.1 39 (16 * a + p) = 1
  · rw [if_pos h, decide_eq_true h]; rfl
  · rw [if_neg h, decide_eq_false h]; rfl
theorem r_depth_4 (hw : Tw T) (hr : RT T σ) {ν : Nat → Nat} (hν : ∀ e q, e < Tn T → TH T e = some q → ν q < ν e) : ∀ m e c, e < Tn T → ν e + 1 < m → f_depth_4 m (Tco T e) (nI c) σ = some (nI (c + TL T e)) := by
  intro m
  induction m with
  | zero => intro e c _ hm; omega
  | succ m ih =>
    intro e c he hm
    rw [f_depth_4]
    cases hq : TH T e with
    | none =>
      rw [if_pos ((Tco_neg hw).mpr hq), TL_eq hw he, hq]
      rfl
    | some q =>
      have hq9 := (TH_lt hw hq).1
      have hν9 := hν e q he hq
      rw [if_neg (fun z => by rw [(Tco_neg hw).mp z] at hq; cases hq), Tco_some hw hq, r_treeOf hw hr hq9]
      simp only [qqb, nI_1]
      rw [ih q (c + 1) hq9 (by omega), TL_eq hw he, hq]
      show some (nI (c + 1 + TL T q)) = some (nI (c + (TL T q + 1)))
      rw [show c + 1 + TL T q = c + (TL T q + 1) by omega]
theorem r_depthT (hw : Tw T) (hr : RT T σ) {e : Nat} (he : e < Tn T) : f_depth (Tco T e) σ = some (nI (TL T e)) := by
  obtain ⟨ν, h1, -, -, h2⟩ := hw.rkb
  have := r_depth_4 hw hr h2 4000 e 0 he (by have := h1 e he; omega)
  unfold f_depth
  rw [show (0 : Int32) = nI 0 from rfl, this, Nat.zero_add]
theorem r_depthH (hw : Tw T) (hr : RT T σ) {o : Option Nat} (ho : ∀ h, o = some h → h < Tn T) : f_depth (qqO o) σ = some (dpo T o) := by
  have h30 := hw.n30
  unfold f_depth
  cases o with
  | none => rw [show (4000 : Nat) = 3999 + 1 from rfl, f_depth_4, if_pos (show qqO none < 0 by decide)]; rfl
  | some h =>
    have hh := ho h rfl
    obtain ⟨ν, h1, -, -, h2⟩ := hw.rkb
    rw [show (4000 : Nat) = 3999 + 1 from rfl, f_depth_4, if_neg (show ¬ qqO (some h) < 0 from nI_pos (by omega)), qqO_some, r_treeOf hw hr hh]
    simp only [qqb]
    rw [show (0 : Int32) = nI 0 from rfl, nI_1, r_depth_4 hw hr h2 3999 h (0 + 1) hh (by have := h1 h hh; omega)]
    show some (nI (0 + 1 + TL T h)) = some (nI (TL T h + 1))
    rw [show 0 + 1 + TL T h = TL T h + 1 by omega]
theorem r_depthOf (hw : Tw T) (hr : RT T σ) (hc : RC T G σ) {a p : Nat} (ha : VR T G a) (hp : p < 16) : f_depthOf (nI (16 * a + p)) σ = some (Ldp T G a) := by
  have h70 := ha.lt hw hc
  unfold f_depthOf f_depthOf_36 Ldp
  rw [dv16 h70 hp]
  simp only [qqb]
  by_cases h40 : a < 40
  · have har : a < Gr G := by unfold VR at ha; omega
    rw [if_neg (by rw [r640 h70 hp]; omega), if_pos h40, (hc.f har).1]
    simp only [qqb]
    rw [hc.h (hc.f har).2]
    simp only [qqb]
    rw [r_depthH hw hr (fun h hh => (hc.hn (hc.f har).2 hh).1)]
    rfl
  · have hae : a - 40 < Tn T := by unfold VR at ha; have := hc.r40; omega
    rw [if_pos (by rw [r640 h70 hp]; omega), if_neg h40, show (40 : Int32) = nI 40 from rfl, pk_sub (by omega), r_treeOf hw hr hae]
    simp only [qqb]
    rw [r_depthT hw hr hae]
    rfl
theorem r_layerOf (hw : Tw T) (hc : RC T G σ) {a p : Nat} (ha : a < Gr G) (hp : p < 16) : f_layerOf (nI (16 * a + p)) σ = some (Lly G σ a) := by
  have h40 := hc.r40
  have h8 := hc.k8
  unfold f_layerOf Lly
  rw [if_neg (by rw [r640 (by omega) hp]; omega), dv16 (by omega) hp]
  simp only [qqb]
  rw [(hc.f ha).1]
  simp only [qqb]
  rw [rd_29 (by have := (hc.f ha).2; omega)]
  simp only [qqb]
  unfold f_layerOf_25
  by_cases h : σ.1 29 (Gsf G a) < 0
  · rw [if_pos h, if_neg (Int32.not_le.mpr h)]; rfl
  · rw [if_neg h, if_pos (Int32.not_lt.mp h)]; rfl
theorem RC.org (h : RC T G σ) {k : Nat} (hk : k < Gk G) : ∃ o, o < 3 ∧ σ.1 27 k = nI o := (h.2.2.1 k hk).2.2.1
theorem mul1 (x : Int32) : x * (1 : Int32) = x := Int32.mul_one x
theorem r_against_15 (hw : Tw T) (hr : RT T σ) (hc : RC T G σ) {a b p : Nat} (ha : VR T G a) (hb : VR T G b) (hp : p < 16) {im : Bool} {y : Int32} (hy : (im = true ∧ y = -1) ∨ (im = false ∧ y = 1)) : f_against_15 (nI (16 * a + p)) (nI (16 * b + p)) y σ = some (agS im (Lrk G σ p a) (Lrk G σ p b) (Ldp T G a) (Ldp T G b) (decide (40 ≤ a)) (decide (40 ≤ b)) (Lly G σ a) (Lly G σ b) (σ.1 20 (Gse G a)) (σ.1 20 (Gse G b)) (nI (Gsf G a)) (nI (Gsf G b)) (nI a) (nI b)) := by
  have ha70 := ha.lt hw hc
  have hb70 := hb.lt hw hc
  have h30 := hc.s30
  unfold f_against_15 agS
  rw [r_rank hw hc ha hp]
  simp only [qqx]
  rw [r_rank hw hc hb hp]
  simp only [qqx]
  by_cases c1 : Lrk G σ p a = Lrk G σ p b
  · rw [if_pos c1, if_pos c1, r_depthOf hw hr hc ha hp]
    simp only [qqx]
    rw [r_depthOf hw hr hc hb hp]
    simp only [qqx]
    by_cases c2 : Ldp T G a = Ldp T G b
    · rw [if_pos c2, if_pos c2]
      by_cases c3 : 40 ≤ a
      · rw [if_pos (by rw [r640 ha70 hp]; exact c3), if_pos (Or.inl (decide_eq_true c3)), if_pos (decide_eq_true c3)]
        unfold f_against_97
        rw [if_neg (by rw [r640' ha70 hp]; omega)]
        rfl
      · rw [if_neg (by rw [r640 ha70 hp]; exact c3)]
        by_cases c4 : 40 ≤ b
        · rw [if_neg (by rw [r640' hb70 hp]; omega), if_pos (Or.inr (decide_eq_true c4)), if_neg (by rw [decide_eq_true_iff]; exact c3)]
          unfold f_against_97
          rw [if_pos (by rw [r640' ha70 hp]; omega)]
          rfl
        · have har : a < Gr G := by unfold VR at ha; omega
          have hbr : b < Gr G := by unfold VR at hb; omega
          rw [if_pos (by rw [r640' hb70 hp]; omega), if_neg (show ¬ (decide (40 ≤ a) = true ∨ decide (40 ≤ b) = true) from by rw [decide_eq_true_iff, decide_eq_true_iff]; omega), r_layerOf hw hc har hp]
          simp only [qqx]
          rw [r_layerOf hw hc hbr hp]
          simp only [qqx]
          by_cases c5 : Lly G σ a = Lly G σ b
          · rw [if_pos c5, if_pos c5, dv16 ha70 hp]
            simp only [qqx]
            rw [dv16 hb70 hp]
            simp only [qqx]
            rw [(hc.e har).1, (hc.e hbr).1]
            simp only [qqx]
            rw [rd_20 (by have := (hc.e har).2; omega), rd_20 (by have := (hc.e hbr).2; omega)]
            simp only [qqx]
            by_cases c6 : σ.1 20 (Gse G a) = σ.1 20 (Gse G b)
            · rw [if_pos c6, if_pos c6, (hc.f har).1, (hc.f hbr).1]
              simp only [qqx]
              by_cases c7 : nI (Gsf G a) = nI (Gsf G b)
              · rw [c7, if_neg (Int32.not_lt.mpr Int32.le_rfl), if_pos rfl, if_pos rfl]
                by_cases c8 : nI a ≤ nI b
                · rw [if_pos c8, if_pos c8]; rfl
                · rw [if_neg c8, if_neg c8]; rfl
              · rw [if_neg c7, if_neg c7]
                by_cases c8 : nI (Gsf G a) ≤ nI (Gsf G b)
                · rw [if_neg (Int32.not_lt.mpr c8), if_pos c8]; rfl
                · rw [if_pos (Int32.not_le.mp c8), if_neg c8]; rfl
            · rw [if_neg c6, if_neg c6]
              by_cases c8 : σ.1 20 (Gse G a) ≤ σ.1 20 (Gse G b)
              · rw [if_pos c8, if_pos c8]; rfl
              · rw [if_neg c8, if_neg c8]; rfl
          · rw [if_neg c5, if_neg c5]
            unfold f_against_143
            by_cases c8 : Lly G σ a ≤ Lly G σ b
            · rw [if_pos c8, decide_eq_false (Int32.not_lt.mpr c8)]
              rcases hy with ⟨rfl, rfl⟩ | ⟨rfl, rfl⟩ <;> rfl
            · rw [if_neg c8, decide_eq_true (Int32.not_le.mp c8)]
              rcases hy with ⟨rfl, rfl⟩ | ⟨rfl, rfl⟩ <;> rfl
    · rw [if_neg c2, if_neg c2]
      unfold f_against_80
      by_cases c8 : Ldp T G b ≤ Ldp T G a
      · rw [if_pos c8, decide_eq_false (Int32.not_lt.mpr c8)]
        rcases hy with ⟨rfl, rfl⟩ | ⟨rfl, rfl⟩ <;> rfl
      · rw [if_neg c8, decide_eq_true (Int32.not_le.mp c8)]
        rcases hy with ⟨rfl, rfl⟩ | ⟨rfl, rfl⟩ <;> rfl
  · rw [if_neg c1, if_neg c1]
    by_cases c8 : Lrk G σ p a ≤ Lrk G σ p b
    · rw [if_pos c8, if_pos c8]; rfl
    · rw [if_neg c8, if_neg c8]; rfl
theorem r_against (hw : Tw T) (hr : RT T σ) (hc : RC T G σ) {a b p : Nat} (ha : VR T G a) (hb : VR T G b) (hp : p < 16) : f_against (nI (16 * a + p)) (nI (16 * b + p)) σ = some (Lag T G σ p a b) := by
  have ha70 := ha.lt hw hc
  unfold f_against Lag
  rw [rd_39 (by omega)]
  simp only [qqx]
  by_cases h : σ.1 39 (16 * a + p) = 1
  · rw [if_pos h, show Lim σ p a = true from decide_eq_true h]
    exact r_against_15 hw hr hc ha hb hp (Or.inl ⟨rfl, rfl⟩)
  · rw [if_neg h, show Lim σ p a = false from decide_eq_false h]
    exact r_against_15 hw hr hc ha hb hp (Or.inr ⟨rfl, rfl⟩)
end RC
