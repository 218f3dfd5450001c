theorem b2_i0' {α : Sort _} (b : Bool) (X Y : α) : (if b2 b = nI 0 then X else Y) = if b = true then Y else X := b2_i0 b X Y
theorem sf_sf (σ : mS) (f : Nat) (v w : Int32) : sf (sf σ f v) f w = sf σ f w := by
  refine Prod.ext rfl (funext fun g => ?_)
  show (if g = f then w else (if g = f then v else σ.2 g)) = if g = f then w else σ.2 g
  by_cases h : g = f
  · rw [if_pos h, if_pos h]
  · rw [if_neg h, if_neg h, if_neg h]
theorem sf_id (σ : mS) (f : Nat) : sf σ f (σ.2 f) = σ := by
  refine Prod.ext rfl (funext fun g => ?_)
  show (if g = f then σ.2 f else σ.2 g) = σ.2 g
  by_cases h : g = f
  · rw [if_pos h, h]
  · rw [if_neg h]
def TB (T : qqT) (x : Nat) (e : Nat) : Bool := qqIt (fun _ => false) (fun e r => decide (Tsp T e = some x) || r) (Tsp T) 30 e
def TBo (T : qqT) (t : Option Nat) (e : Nat) : Bool := match t with
  | none => false
  | some q => TB T q e
def tcO (T : qqT) (t : Option Nat) (tc : Int32) : Prop := match t with
  | none => tc < 0
  | some q => tc = nI q ∧ q < Tn T
section RM
variable {T : qqT} {σ : mS}
theorem TB_eq (hw : Tw T) {x e : Nat} (he : e < Tn T) : TB T x e = match Tsp T e with
    | none => false
    | some y => (y == x) || TB T x y := by
  have h1 := qqIt_eq (fin := fun _ => false) (f := fun e r => decide (Tsp T e = some x) || r) (st := Tsp T) (μ := fun e => (TC T e).1) hw.n30 (fun e q _ hs => ⟨(Tsp_cases hw hs).2.1, Tsp_m hw hs⟩) he
  unfold TB
  rw [h1]
  cases hs : Tsp T e with
  | none => rfl
  | some y =>
    show (decide (some y = some x) || _) = ((y == x) || _)
    rw [show decide (some y = some x) = (y == x) by simp [Bool.beq_eq_decide_eq, Nat.beq_eq_true_eq, BEq.beq]]
theorem TB_D (hw : Tw T) {x : Nat} : ∀ e, e < Tn T → TB T x e = true → TD T e = TD T x := by
  intro e
  refine qqInd (st := Tsp T) (μ := fun e => (TC T e).1) (P := fun e => e < Tn T → TB T x e = true → TD T e = TD T x) ?_ e
  intro e ih he hb
  rw [TB_eq hw he] at hb
  cases hs : Tsp T e with
  | none => rw [hs] at hb; cases hb
  | some y =>
    rw [hs] at hb
    have hy := Tsp_cases hw hs
    rw [Tsp_D hw hs]
    by_cases hyx : y = x
    · rw [hyx]
    · have : (y == x) = false := by simpa using hyx
      simp only [this, Bool.false_or] at hb
      exact ih y hs (Tsp_m hw hs) hy.2.1 hb
theorem r_docMask_4 (hw : Tw T) (hr : RT T σ) : ∀ d m k, k + d = Tn T → d < m → f_docMask_4 m (qqM (TD T) k) (nI k) σ = some (qqM (TD T) (Tn T)) := by
  have h30 := hw.n30
  intro d
  induction d with
  | zero =>
    intro m k hk hm
    obtain ⟨m, rfl⟩ : ∃ m', m = m' + 1 := ⟨m - 1, by omega⟩
    have hk : k = Tn T := by omega
    subst hk
    rw [f_docMask_4, hr.n, if_pos (nI_le (Nat.le_refl _) (by omega))]
  | succ d ih =>
    intro m k hk hm
    obtain ⟨m, rfl⟩ : ∃ m', m = m' + 1 := ⟨m - 1, by omega⟩
    rw [f_docMask_4, hr.n, if_neg (nI_ge (by omega) (by omega)), r_inDoc hw hr (by omega)]
    simp only [qqb]
    rw [b2_i0]
    have h1 := ih m (k + 1) (by omega) (by omega)
    unfold f_docMask_28
    rw [nI_1]
    by_cases hd : TD T k = true
    · rw [if_pos hd, ← h1, qqM_s]; unfold qq1; rw [if_pos hd]
    · rw [if_neg hd, ← h1, qqM_s]; unfold qq1; rw [if_neg hd]
theorem r_docMask (hw : Tw T) (hr : RT T σ) : f_docMask σ = some (qqM (TD T) (Tn T)) := by
  have h1 := r_docMask_4 hw hr (Tn T) 4000 0 (by omega) (by have := hw.n30; omega)
  unfold f_docMask
  rw [show (0 : Int32) = nI 0 from rfl]
  exact h1
def dm (T : qqT) (P : Nat → Bool) (e : Nat) : Bool := decide (e < Tn T) && (TD T e && P e)
def RMk (T : qqT) (P : Nat → Bool) (σ σ' : mS) : Prop := ∃ v, σ' = sf σ 49 v ∧ ∀ e, e < 32 → bt v e = (bt (σ.2 49) e || dm T P e)
theorem RMk.rf : RMk T (fun _ => false) σ σ := ⟨σ.2 49, (sf_id σ 49).symm, fun e _ => by simp [dm]⟩
theorem RMk.tr {P Q : Nat → Bool} {a b c : mS} (h : RMk T P a b) (k : RMk T Q b c) : RMk T (fun e => P e || Q e) a c := by
  obtain ⟨v, rfl, h2⟩ := h
  obtain ⟨w, rfl, k2⟩ := k
  refine ⟨w, sf_sf _ _ _ _, fun e he => ?_⟩
  rw [k2 e he, sf_s, h2 e he]
  show ((bt (a.2 49) e || dm T P e) || dm T Q e) = (bt (a.2 49) e || (decide (e < Tn T) && (TD T e && (P e || Q e))))
  unfold dm
  cases bt (a.2 49) e <;> cases decide (e < Tn T) <;> cases TD T e <;> cases P e <;> cases Q e <;> rfl
theorem RMk.cg {P Q : Nat → Bool} {a b : mS} (h : RMk T P a b) (k : ∀ e, e < Tn T → TD T e = true → P e = Q e) : RMk T Q a b := by
  obtain ⟨v, rfl, h2⟩ := h
  refine ⟨v, rfl, fun e he => ?_⟩
  rw [h2 e he]
  unfold dm
  by_cases h1 : e < Tn T
  · by_cases h3 : TD T e = true
    · rw [k e h1 h3]
    · simp [h3]
  · simp [h1]
theorem RMk.rt {P : Nat → Bool} {σ' : mS} (h : RMk T P σ σ') (hr : RT T σ) : RT T σ' := by
  obtain ⟨v, rfl, -⟩ := h
  exact hr.sB (L1 := []) (L2 := [49]) ((sB.rf σ).sf (by simp)) (by simp) (by decide)
theorem RMk.sB {P : Nat → Bool} {σ' : mS} (h : RMk T P σ σ') : sB [] [49] σ σ' := by
  obtain ⟨v, rfl, -⟩ := h
  exact (sB.rf σ).sf (by simp)
theorem r_mark (hw : Tw T) (hr : RT T σ) (x : Int32) : ∃ σ', f_mark x σ = some σ' ∧ RMk T (bt x) σ σ' := by
  unfold f_mark
  rw [r_docMask hw hr]
  refine ⟨_, rfl, _, rfl, fun e he => ?_⟩
  rw [b_or, b_and, qqM_bt _ _ (by have := hw.n30; omega) e he]
  unfold dm
  cases bt (σ.2 49) e <;> cases bt x e <;> cases decide (e < Tn T) <;> cases TD T e <;> rfl
def mkD (T : qqT) (σ : mS) : Prop := ∀ e, e < 32 → bt (σ.2 49) e = true → e < Tn T ∧ TD T e = true
theorem RMk.mk {P : Nat → Bool} {σ' : mS} (h : RMk T P σ σ') (hm : mkD T σ) : mkD T σ' := by
  obtain ⟨v, rfl, h2⟩ := h
  intro e he hb
  rw [sf_s, h2 e he] at hb
  by_cases h0 : bt (σ.2 49) e = true
  · exact hm e he h0
  · have h0 : bt (σ.2 49) e = false := by simpa using h0
    rw [h0, Bool.false_or] at hb
    unfold dm at hb
    simp only [Bool.and_eq_true, decide_eq_true_eq] at hb
    exact ⟨hb.1, hb.2.1⟩
theorem r_markAll (hw : Tw T) (hr : RT T σ) (hm : mkD T σ) : ∃ σ', f_markAll σ = some σ' ∧ RMk T (fun _ => true) σ σ' := by
  unfold f_markAll
  rw [r_docMask hw hr]
  refine ⟨_, rfl, _, rfl, fun e he => ?_⟩
  rw [qqM_bt _ _ (by have := hw.n30; omega) e he]
  unfold dm
  by_cases h0 : bt (σ.2 49) e = true
  · have := hm e he h0
    simp [h0, this.1, this.2]
  · have h0 : bt (σ.2 49) e = false := by simpa using h0
    rw [h0, Bool.false_or, Bool.and_true]
theorem r_below_6 (hw : Tw T) (hr : RT T σ) {x : Nat} (hx : x < Tn T) {ν : Nat → Nat} (hν : ∀ e y, e < Tn T → Tsp T e = some y → ν y < ν e) : ∀ m e, e < Tn T → ν e + 1 < m → f_below_6 m (nI x) (nI e) σ = some (b2 ((e == x) || TB T x e)) := by
  have h30 := hw.n30
  intro m
  induction m with
  | zero => intro e _ hm; omega
  | succ m ih =>
    intro e he hm
    rw [f_below_6, if_neg (nI_pos (by omega))]
    by_cases hex : e = x
    · subst hex
      rw [if_pos rfl]
      unfold f_below_24
      rw [if_pos rfl]
      have : (e == e) = true := by simp
      rw [this, Bool.true_or]
      rfl
    · rw [if_neg (by rw [nI_eqE (by omega) (by omega)]; exact hex), r_shown hw hr he]
      simp only [qqb]
      have : (e == x) = false := by simpa using hex
      rw [this, Bool.false_or, TB_eq hw he]
      cases hs : Tsp T e with
      | some y =>
        have := hν e y he hs
        exact ih y (Tsp_cases hw hs).2.1 (by omega)
      | none =>
        obtain ⟨m, rfl⟩ : ∃ m', m = m' + 1 := ⟨m - 1, by omega⟩
        rw [f_below_6, if_pos (show qqO none < 0 by decide)]
        unfold f_below_24
        rw [if_neg (show ¬ qqO none = nI x from fun z => by
          have z2 : ¬ nI x < 0 := nI_pos (by omega)
          rw [← z] at z2
          exact z2 (by decide))]
        rfl
theorem Tsp_rk (hw : Tw T) : ∃ ν : Nat → Nat, (∀ e, e < Tn T → ν e < 30) ∧ ∀ e y, e < Tn T → Tsp T e = some y → ν y < ν e := by
  obtain ⟨ν, h1, h2⟩ := qqRk (Tn T) (fun e => (TC T e).1)
  refine ⟨ν, fun e he => by have := h1 e he; have := hw.n30; omega, fun e y he hy => h2 y e (Tsp_cases hw hy).2.1 he (Tsp_m hw hy)⟩
theorem r_below (hw : Tw T) (hr : RT T σ) {x e : Nat} (hx : x < Tn T) (he : e < Tn T) : f_below (nI e) (nI x) σ = some (b2 (TB T x e)) := by
  have h30 := hw.n30
  obtain ⟨ν, h1, h2⟩ := Tsp_rk hw
  unfold f_below
  rw [r_shown hw hr he]
  simp only [qqb]
  rw [TB_eq hw he]
  cases hs : Tsp T e with
  | some y => exact r_below_6 hw hr hx h2 4000 y (Tsp_cases hw hs).2.1 (by have := h1 y (Tsp_cases hw hs).2.1; omega)
  | none =>
    rw [show (4000 : Nat) = 3999 + 1 from rfl, f_below_6, if_pos (show qqO none < 0 by decide)]
    unfold f_below_24
    rw [if_neg (show ¬ qqO none = nI x from fun z => by
      have z2 : ¬ nI x < 0 := nI_pos (by omega)
      rw [← z] at z2
      exact z2 (by decide))]
    rfl
theorem r_bit (x : Int32) {k : Nat} (hk : k < 32) : f_bit x (nI k) = some (b2 (bt x k)) := by
  unfold f_bit
  rw [b_ask x hk, b2_i1]
  cases bt x k <;> rfl
theorem r_markBelow_7 (hw : Tw T) {x : Nat} (hx : x < Tn T) : ∀ d m k (σ : mS), RT T σ → k + d = Tn T → d < m → ∃ σ', f_markBelow_7 m (nI x) (qqM (TD T) (Tn T)) (nI k) σ = some σ' ∧ RMk T (fun e => decide (k ≤ e) && TB T x e) σ σ' := by
  have h30 := hw.n30
  intro d
  induction d with
  | zero =>
    intro m k σ hr hk hm
    obtain ⟨m, rfl⟩ : ∃ m', m = m' + 1 := ⟨m - 1, by omega⟩
    have hk : k = Tn T := by omega
    subst hk
    rw [f_markBelow_7, hr.n, if_pos (nI_le (Nat.le_refl _) (by omega))]
    exact ⟨σ, rfl, RMk.rf.cg (fun e he _ => by rw [decide_eq_false (by omega)]; rfl)⟩
  | succ d ih =>
    intro m k σ hr hk hm
    obtain ⟨m, rfl⟩ : ∃ m', m = m' + 1 := ⟨m - 1, by omega⟩
    have hkn : k < Tn T := by omega
    rw [f_markBelow_7, hr.n, if_neg (nI_ge hkn (by omega)), r_bit _ (by omega)]
    simp only [qqb]
    rw [b2_i0, qqM_bt _ _ (by omega) k (by omega), decide_eq_true hkn, Bool.true_and]
    unfold f_markBelow_44 f_markBelow_45
    rw [nI_1]
    have h0 : ∀ e, e < Tn T → TD T e = true → (e ≠ k ∨ TB T x k = false) → (decide (k + 1 ≤ e) && TB T x e) = (decide (k ≤ e) && TB T x e) := by
      intro e he hd h1
      by_cases hek : e = k
      · subst hek
        have := h1.resolve_left (fun z => z rfl)
        rw [this, Bool.and_false, Bool.and_false]
      · by_cases hle : k ≤ e
        · rw [decide_eq_true hle, decide_eq_true (show k + 1 ≤ e by omega)]
        · rw [decide_eq_false hle, decide_eq_false (show ¬ k + 1 ≤ e by omega)]
    have hz : sf σ 49 (σ.2 49 ||| 0) = σ := by rw [or_0, sf_id]
    by_cases hd : TD T k = true
    · rw [if_pos hd, r_below hw hr hx hkn]
      simp only [qqb]
      rw [b2_i0]
      by_cases hb : TB T x k = true
      · rw [if_pos hb]
        have hr1 : RT T (sf σ 49 (σ.2 49 ||| ((1 : Int32) <<< (nI k &&& 31)))) := hr.sB (L1 := []) (L2 := [49]) ((sB.rf σ).sf (by simp)) (by simp) (by decide)
        obtain ⟨σ2, e2, b3⟩ := ih m (k + 1) _ hr1 (by omega) (by omega)
        refine ⟨σ2, e2, ?_⟩
        have b1 : RMk T (fun e => decide (e = k)) σ (sf σ 49 (σ.2 49 ||| ((1 : Int32) <<< (nI k &&& 31)))) := by
          refine ⟨_, rfl, fun e he => ?_⟩
          rw [b_or, b_one (by omega) he]
          unfold dm
          by_cases hek : e = k
          · subst hek; simp [hkn, hd]
          · simp [hek]
        refine (b1.tr b3).cg (fun e he hde => ?_)
        by_cases hek : e = k
        · subst hek; simp [hb]
        · rw [decide_eq_false hek, Bool.false_or]; exact h0 e he hde (Or.inl hek)
      · rw [if_neg hb, hz]
        obtain ⟨σ2, e2, b3⟩ := ih m (k + 1) σ hr (by omega) (by omega)
        exact ⟨σ2, e2, b3.cg (fun e he hde => h0 e he hde (Or.inr (by simpa using hb)))⟩
    · rw [if_neg hd, hz]
      obtain ⟨σ2, e2, b3⟩ := ih m (k + 1) σ hr (by omega) (by omega)
      exact ⟨σ2, e2, b3.cg (fun e he hde => h0 e he hde (Or.inl (fun z => hd (by rw [← z]; exact hde))))⟩
theorem r_markBelow (hw : Tw T) (hr : RT T σ) {x : Nat} (hx : x < Tn T) : ∃ σ', f_markBelow (nI x) σ = some σ' ∧ RMk T (TB T x) σ σ' := by
  unfold f_markBelow
  rw [r_docMask hw hr]
  simp only [qqb]
  obtain ⟨σ2, e2, b2⟩ := r_markBelow_7 hw hx (Tn T) 4000 0 σ hr (by omega) (by have := hw.n30; omega)
  rw [show (0 : Int32) = nI 0 from rfl]
  exact ⟨σ2, e2, b2.cg (fun e _ _ => by simp)⟩
theorem r_markWith (hw : Tw T) (hr : RT T σ) {x : Nat} (hx : x < Tn T) : ∃ σ', f_markWith (nI x) σ = some σ' ∧ RMk T (fun e => decide (e = x) || TB T x e) σ σ' := by
  have h30 := hw.n30
  unfold f_markWith
  obtain ⟨σ1, e1, b1⟩ := r_mark hw hr ((1 : Int32) <<< (nI x &&& 31))
  rw [e1]
  simp only [qqb]
  obtain ⟨σ2, e2, b2⟩ := r_markBelow hw (b1.rt hr) hx
  rw [e2]
  exact ⟨σ2, rfl, (b1.tr b2).cg (fun e he _ => by rw [b_one (by omega) (by omega)])⟩
def TMh (T : qqT) (p t : Option Nat) (e : Nat) : Bool := (match p with
  | none => false
  | some p => Ts T p && TB T p e) || TBo T t e
theorem r_markHosts_19 (hw : Tw T) (hr : RT T σ) {t : Option Nat} {tc : Int32} (htc : tcO T t tc) : ∃ σ', f_markHosts_19 tc σ = some σ' ∧ RMk T (TBo T t) σ σ' := by
  have h30 := hw.n30
  unfold f_markHosts_19
  cases t with
  | none => rw [if_pos (show tc < 0 from htc)]; exact ⟨σ, rfl, RMk.rf⟩
  | some q =>
    obtain ⟨rfl, hq⟩ := htc
    rw [if_neg (nI_pos (by omega))]
    obtain ⟨σ2, e2, b2⟩ := r_markBelow hw hr hq
    rw [e2]
    exact ⟨σ2, rfl, b2⟩
theorem r_markHosts (hw : Tw T) (hr : RT T σ) {p t : Option Nat} {tc : Int32} (hp : ∀ q, p = some q → q < Tn T) (htc : tcO T t tc) : ∃ σ', f_markHosts (qqO p) tc σ = some σ' ∧ RMk T (TMh T p t) σ σ' := by
  have h30 := hw.n30
  unfold f_markHosts
  cases p with
  | none =>
    rw [if_pos (show qqO none < 0 by decide)]
    obtain ⟨σ2, e2, b2⟩ := r_markHosts_19 hw hr htc
    exact ⟨σ2, e2, b2.cg (fun e _ _ => by unfold TMh; simp)⟩
  | some q =>
    have hq := hp q rfl
    rw [if_neg (show ¬ qqO (some q) < 0 from nI_pos (by omega)), qqO_some, hr.s (by omega)]
    simp only [qqb]
    rw [b2_i1]
    by_cases hs : Ts T q = true
    · rw [if_pos hs]
      obtain ⟨σ1, e1, b1⟩ := r_markBelow hw hr hq
      rw [e1]
      simp only [qqb]
      obtain ⟨σ2, e2, b2⟩ := r_markHosts_19 hw (b1.rt hr) htc
      exact ⟨σ2, e2, (b1.tr b2).cg (fun e _ _ => by unfold TMh; simp [hs])⟩
    · rw [if_neg hs]
      obtain ⟨σ2, e2, b2⟩ := r_markHosts_19 hw hr htc
      exact ⟨σ2, e2, b2.cg (fun e _ _ => by unfold TMh; simp [hs])⟩
def fl2 (o h : Bool) : Nat := (if o then 1 else 0) + (if h then 2 else 0)
def TMs (T : qqT) (x : Option Nat) (e : Nat) : Bool := match x with
  | none => false
  | some x => (Tsb T x).any (fun y => decide (Tix T x ≤ Tix T y) && (decide (e = y) || TB T y e))
theorem r_markPlace_39 (hw : Tw T) (hr : RT T σ) (hm : mkD T σ) {p t : Option Nat} {tc : Int32} (hp : ∀ q, p = some q → q < Tn T) (htc : tcO T t tc) (o h : Bool) : ∃ σ', f_markPlace_39 (qqO p) tc (nI (fl2 o h)) σ = some σ' ∧ RMk T (fun e => TMh T p t e || h) σ σ' := by
  unfold f_markPlace_39
  obtain ⟨σ1, e1, b1⟩ := r_markHosts hw hr hp htc
  rw [e1]
  simp only [qqb]
  cases h with
  | false =>
    have : nI (fl2 o false) ≤ (1 : Int32) := by cases o <;> decide
    rw [if_pos this]
    exact ⟨σ1, rfl, b1.cg (fun e _ _ => by simp)⟩
  | true =>
    have : ¬ nI (fl2 o true) ≤ (1 : Int32) := by cases o <;> decide
    rw [if_neg this]
    obtain ⟨σ2, e2, b2⟩ := r_markAll hw (b1.rt hr) (b1.mk hm)
    rw [e2]
    exact ⟨σ2, rfl, b1.tr b2⟩
theorem Tsb_any (hw : Tw T) {x : Nat} (f : Nat → Bool) : (Tsb T x).any (fun y => decide (Tix T x ≤ Tix T y) && f y) = (f x || match Tnx T x with
    | none => false
    | some z => (Tsb T z).any (fun y => decide (Tix T z ≤ Tix T y) && f y)) := by
  have hx := Tsb_mem hw x
  cases hz : Tnx T x with
  | none =>
    rw [Bool.or_false]
    have hlen : (Tsb T x).length ≤ Tix T x + 1 := by
      unfold Tnx at hz
      exact List.getElem?_eq_none_iff.mp hz
    rw [Bool.eq_iff_iff, List.any_eq_true]
    constructor
    · rintro ⟨y, hy, h1⟩
      simp only [Bool.and_eq_true, decide_eq_true_eq] at h1
      have hs := Tsb_same hw hy
      have h2 := Tix_lt hw y
      rw [hs.2.2] at h2
      have h3 : Tix T y = Tix T x := by omega
      have h4 := Tix_get hw y
      rw [hs.2.2, h3, Tix_get hw x] at h4
      have h5 := Option.some.inj h4
      rw [h5]
      exact h1.2
    · intro h1
      exact ⟨x, hx, by simp [h1]⟩
  | some z =>
    obtain ⟨z1, z2, z3, z4, z5⟩ := Tnx_some hw hz
    show _ = (f x || (Tsb T z).any _)
    rw [z4, Bool.eq_iff_iff, Bool.or_eq_true, List.any_eq_true, List.any_eq_true]
    constructor
    · rintro ⟨y, hy, h1⟩
      simp only [Bool.and_eq_true, decide_eq_true_eq] at h1
      by_cases h2 : Tix T y = Tix T x
      · left
        have hs := Tsb_same hw hy
        have h4 := Tix_get hw y
        rw [hs.2.2, h2, Tix_get hw x] at h4
        have h5 := Option.some.inj h4
        rw [h5]
        exact h1.2
      · right
        exact ⟨y, hy, by simp only [Bool.and_eq_true, decide_eq_true_eq]; exact ⟨by omega, h1.2⟩⟩
    · rintro (h1 | ⟨y, hy, h1⟩)
      · exact ⟨x, hx, by simp [h1]⟩
      · simp only [Bool.and_eq_true, decide_eq_true_eq] at h1
        exact ⟨y, hy, by simp only [Bool.and_eq_true, decide_eq_true_eq]; exact ⟨by omega, h1.2⟩⟩
theorem r_markPlace_9 (hw : Tw T) {p t : Option Nat} {tc : Int32} (hp : ∀ q, p = some q → q < Tn T) (htc : tcO T t tc) (h : Bool) : ∀ d m (x : Nat) (σ : mS), RT T σ → mkD T σ → x < Tn T → Tix T x + d = (Tsb T x).length → d + 1 < m → ∃ σ', f_markPlace_9 m (qqO p) tc (nI (fl2 true h)) (nI x) σ = some σ' ∧ RMk T (fun e => TMs T (some x) e || (TMh T p t e || h)) σ σ' := by
  have h30 := hw.n30
  intro d
  induction d with
  | zero => intro m x σ hr hm hx hd hmm; have := Tix_lt hw x; omega
  | succ d ih =>
    intro m x σ hr hm hx hd hmm
    obtain ⟨m, rfl⟩ : ∃ m', m = m' + 1 := ⟨m - 1, by omega⟩
    have hrm : rm (nI (fl2 true h)) 2 = some 1 := by cases h <;> decide
    rw [f_markPlace_9, if_neg (nI_pos (by omega)), hrm]
    simp only [qqb, if_true]
    obtain ⟨σ1, e1, b1⟩ := r_markWith hw hr hx
    rw [e1]
    simp only [qqb]
    rw [r_sibling hw (b1.rt hr) hx]
    simp only [qqb]
    have hany := fun e => Tsb_any hw (x := x) (fun y => decide (e = y) || TB T y e)
    cases hz : Tnx T x with
    | none =>
      obtain ⟨m, rfl⟩ : ∃ m', m = m' + 1 := ⟨m - 1, by omega⟩
      rw [f_markPlace_9, if_pos (show qqO none < 0 by decide)]
      obtain ⟨σ2, e2, b2⟩ := r_markPlace_39 hw (b1.rt hr) (b1.mk hm) hp htc true h
      refine ⟨σ2, e2, (b1.tr b2).cg (fun e _ _ => ?_)⟩
      have := hany e
      rw [hz] at this
      unfold TMs
      simp only [this, Bool.or_false]
    | some z =>
      obtain ⟨z1, z2, z3, z4, z5⟩ := Tnx_some hw hz
      obtain ⟨σ2, e2, b2⟩ := ih m z σ1 (b1.rt hr) (b1.mk hm) (Tnx_lt hw hx hz) (by rw [z4]; omega) (by omega)
      refine ⟨σ2, e2, (b1.tr b2).cg (fun e _ _ => ?_)⟩
      have := hany e
      rw [hz] at this
      unfold TMs
      simp only [this, Bool.or_assoc]
def TMm (T : qqT) (o h : Bool) (next : Option Nat) (p t : Option Nat) (e : Nat) : Bool := (o && TMs T next e) || (TMh T p t e || h)
theorem r_markPlace (hw : Tw T) (hr : RT T σ) (hm : mkD T σ) {next p t : Option Nat} {tc : Int32} {o h : Bool} (hf : f_flags σ = some (nI (fl2 o h))) (hn : ∀ q, next = some q → q < Tn T) (hp : ∀ q, p = some q → q < Tn T) (htc : tcO T t tc) : ∃ σ', f_markPlace (qqO next) (qqO p) tc σ = some σ' ∧ RMk T (TMm T o h next p t) σ σ' := by
  have h30 := hw.n30
  unfold f_markPlace
  rw [hf]
  simp only [qqb]
  cases next with
  | none =>
    rw [show (4000 : Nat) = 3999 + 1 from rfl, f_markPlace_9, if_pos (show qqO none < 0 by decide)]
    obtain ⟨σ2, e2, b2⟩ := r_markPlace_39 hw hr hm hp htc o h
    exact ⟨σ2, e2, b2.cg (fun e _ _ => by unfold TMm TMs; simp)⟩
  | some x =>
    have hx := hn x rfl
    cases o with
    | false =>
      have hrm : rm (nI (fl2 false h)) 2 = some 0 := by cases h <;> decide
      rw [show (4000 : Nat) = 3999 + 1 from rfl, f_markPlace_9, if_neg (show ¬ qqO (some x) < 0 from nI_pos (by omega)), hrm]
      simp only [qqb]
      rw [if_neg (by decide)]
      obtain ⟨σ2, e2, b2⟩ := r_markPlace_39 hw hr hm hp htc false h
      exact ⟨σ2, e2, b2.cg (fun e _ _ => by unfold TMm; simp)⟩
    | true =>
      obtain ⟨σ2, e2, b2⟩ := r_markPlace_9 hw hp htc h ((Tsb T x).length - Tix T x) 4000 x σ hr hm hx (by have := Tix_lt hw x; omega) (by have := Tsb_len hw hx; omega)
      exact ⟨σ2, e2, b2.cg (fun e _ _ => by unfold TMm; simp)⟩
end RM
