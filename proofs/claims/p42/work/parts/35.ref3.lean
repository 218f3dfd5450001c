section RT3
variable {T : qqT} {σ : mS}
theorem RT.sB {σ' : mS} {L1 L2 : List Nat} (h : RT T σ) (k : sB L1 L2 σ σ') (h1 : ∀ x ∈ [0, 4, 6, 7, 8, 9, 10, 11, 12], x ∉ L1) (h2 : 13 ∉ L2) : RT T σ' := by
  unfold RT at h ⊢
  rw [k.1 0 (h1 0 (by simp)), k.1 4 (h1 4 (by simp)), k.1 6 (h1 6 (by simp)), k.1 7 (h1 7 (by simp)), k.1 8 (h1 8 (by simp)), k.1 9 (h1 9 (by simp)), k.1 10 (h1 10 (by simp)), k.1 11 (h1 11 (by simp)), k.1 12 (h1 12 (by simp)), k.2 13 h2]
  exact h
def rowS (f c : Nat) (σ : mS) (L : List Nat) : Prop := σ.2 c = nI L.length ∧ ∀ k x, L[k]? = some x → σ.1 f k = nI x
theorem rowS_push {f c : Nat} {L : List Nat} {x : Nat} (h : rowS f c σ L) : rowS f c (sf (up σ f L.length (nI x)) c (nI (L.length + 1))) (L ++ [x]) := by
  refine ⟨?_, fun k y hy => ?_⟩
  · rw [sf_s, List.length_append]
    rfl
  · rw [sf_1, up_s]
    by_cases hk : k = L.length
    · subst hk
      rw [if_pos rfl]
      rw [List.getElem?_append_right (Nat.le_refl _), Nat.sub_self] at hy
      injection hy with hy
      rw [hy]
    · rw [if_neg hk]
      rcases Nat.lt_or_ge k L.length with h1 | h1
      · rw [List.getElem?_append_left h1] at hy
        exact h.2 k y hy
      · rw [List.getElem?_eq_none (by rw [List.length_append]; simp only [List.length_cons, List.length_nil]; omega)] at hy
        cases hy
theorem rowS.sB {f c : Nat} {σ' : mS} {L1 L2 : List Nat} {L : List Nat} (h : rowS f c σ L) (k : sB L1 L2 σ σ') (h1 : f ∉ L1) (h2 : c ∉ L2) : rowS f c σ' L := by
  unfold rowS
  rw [k.1 f h1, k.2 c h2]
  exact h
theorem qqO_eqn {o : Option Nat} {x : Nat} (h : ∀ k, o = some k → k < 30) (hx : x < 30) : (qqO o = nI x) = (o = some x) := by
  cases o with
  | none =>
    refine propext ⟨fun z => ?_, fun z => by cases z⟩
    have : ¬ nI x < 0 := nI_pos (by omega)
    rw [← z] at this
    exact absurd (by decide) this
  | some k =>
    have := h k rfl
    rw [qqO_some, nI_eqE (by omega) (by omega)]
    simp
theorem r_fanIn (hw : Tw T) (hr : RT T σ) {e x : Nat} (he : e < Tn T) (hx : x < 30) {L : List Nat} (hL : rowS 78 79 σ L) (hl : Tsp T e = some x → L.length < 30) : ∃ σ', f_fanIn (nI e) (nI x) σ = some σ' ∧ sB [78] [79] σ σ' ∧ rowS 78 79 σ' (L ++ Tfl T x [e]) := by
  unfold f_fanIn
  rw [r_shown hw hr he]
  simp only [qqb]
  have hq9 : (qqO (Tsp T e) = nI x) = (Tsp T e = some x) := qqO_eqn (fun k hk => Tsp_lt hw hk) hx
  by_cases hc : Tsp T e = some x
  · have := hl hc
    rw [if_pos (hq9.mpr hc), hL.1, wr_78 (by omega)]
    simp only [qqb]
    refine ⟨_, rfl, ?_, ?_⟩
    · exact ((sB.rf σ).up (by simp)).sf (by simp)
    · have e1 : Tfl T x [e] = [e] := by unfold Tfl; rw [List.filter_cons_of_pos (by rw [decide_eq_true_iff]; exact hc)]; rfl
      rw [e1, show (up σ 78 L.length (nI e)).2 79 = nI L.length from hL.1, nI_1]
      exact rowS_push hL
  · rw [if_neg (fun z => hc (hq9.mp z))]
    refine ⟨_, rfl, sB.rf σ, ?_⟩
    have e1 : Tfl T x [e] = [] := by unfold Tfl; rw [List.filter_cons_of_neg (by rw [decide_eq_true_iff]; exact hc)]; rfl
    rw [e1, List.append_nil]
    exact hL
theorem Tfl_cons (x y : Nat) (r : List Nat) : Tfl T x (y :: r) = Tfl T x [y] ++ Tfl T x r := by
  unfold Tfl
  rw [← List.filter_append]
  rfl
theorem Tfl_one {x y : Nat} (h : Tsp T y = some x) : (Tfl T x [y]).length = 1 := by
  unfold Tfl
  rw [List.filter_cons_of_pos (by rw [decide_eq_true_iff]; exact h)]
  rfl
theorem fanD : ∀ x ∈ [0, 4, 6, 7, 8, 9, 10, 11, 12], x ∉ [78] := by decide
theorem fanD2 : 13 ∉ [79] := by decide
theorem r_fanOf_96 (hw : Tw T) {x : Nat} (hx : x < Tn T) : ∀ (r : List Nat) (k m : Nat) (L : List Nat) (σ : mS), RT T σ → k ≤ (Tc T x).length → (Tc T x).drop k = r → r.length < m → rowS 78 79 σ L → (L ++ Tfl T x r).length ≤ 30 → ∃ σ', f_fanOf_96 m (nI x) (nI k) σ = some σ' ∧ sB [78] [79] σ σ' ∧ rowS 78 79 σ' (L ++ Tfl T x r) := by
  intro r
  have h30 := hw.n30
  have hcl := hw.clen x
  induction r with
  | nil =>
    intro k m L σ hr hk hd hm hL hl
    obtain ⟨m, rfl⟩ : ∃ m', m = m' + 1 := ⟨m - 1, by omega⟩
    have hk2 := qqDrop0 hd
    rw [f_fanOf_96, hr.cl (by omega)]
    simp only [qqb]
    rw [if_pos (nI_le hk2 (by omega))]
    refine ⟨_, rfl, sB.rf σ, ?_⟩
    show rowS 78 79 σ (L ++ [])
    rw [List.append_nil]
    exact hL
  | cons y r ih =>
    intro k m L σ hr hk hd hm hL hl
    obtain ⟨m, rfl⟩ : ∃ m', m = m' + 1 := ⟨m - 1, by omega⟩
    obtain ⟨h1, h2, h3⟩ := qqDrop hd
    have hy := hw.clt (List.mem_of_getElem? h1)
    rw [Tfl_cons, ← List.append_assoc] at hl
    rw [f_fanOf_96, hr.cl (by omega)]
    simp only [qqb]
    rw [if_neg (nI_ge h3 (by omega)), hr.c (by omega) (by omega) h1]
    simp only [qqb]
    obtain ⟨σ1, e1, b1, l1⟩ := r_fanIn hw hr hy.1 (show x < 30 by omega) hL (fun hc => by
      have := Tfl_one hc
      simp only [List.length_append] at hl
      omega)
    rw [e1]
    simp only [qqb, nI_1]
    obtain ⟨σ2, e2, b2, l2⟩ := ih (k + 1) m (L ++ Tfl T x [y]) σ1 (hr.sB b1 fanD fanD2) (by omega) h2 (by simp only [List.length_cons] at hm; omega) l1 hl
    refine ⟨σ2, e2, b1.tr b2, ?_⟩
    rw [Tfl_cons, ← List.append_assoc]
    exact l2
theorem r_fanOf_62 (hw : Tw T) {x : Nat} (hx : x < Tn T) : ∀ (r : List Nat) (k m : Nat) (L : List Nat) (σ : mS), RT T σ → k ≤ (Tt T x).length → (Tt T x).drop k = r → r.length < m → rowS 78 79 σ L → (L ++ (Tfl T x r ++ Tfl T x (Tc T x))).length ≤ 30 → ∃ σ', f_fanOf_62 m (nI x) (nI k) σ = some σ' ∧ sB [78] [79] σ σ' ∧ rowS 78 79 σ' (L ++ (Tfl T x r ++ Tfl T x (Tc T x))) := by
  intro r
  have h30 := hw.n30
  have hcl := hw.tlen x
  induction r with
  | nil =>
    intro k m L σ hr hk hd hm hL hl
    obtain ⟨m, rfl⟩ : ∃ m', m = m' + 1 := ⟨m - 1, by omega⟩
    have hk2 := qqDrop0 hd
    rw [f_fanOf_62, hr.tl (by omega)]
    simp only [qqb]
    rw [if_pos (nI_le hk2 (by omega))]
    exact r_fanOf_96 hw hx (Tc T x) 0 4000 L σ hr (Nat.zero_le _) rfl (by have := hw.clen x; omega) hL hl
  | cons y r ih =>
    intro k m L σ hr hk hd hm hL hl
    obtain ⟨m, rfl⟩ : ∃ m', m = m' + 1 := ⟨m - 1, by omega⟩
    obtain ⟨h1, h2, h3⟩ := qqDrop hd
    have hy := hw.tlt (List.mem_of_getElem? h1)
    rw [Tfl_cons, List.append_assoc, ← List.append_assoc] at hl
    rw [f_fanOf_62, hr.tl (by omega)]
    simp only [qqb]
    rw [if_neg (nI_ge h3 (by omega)), hr.t (by omega) (by omega) h1]
    simp only [qqb]
    obtain ⟨σ1, e1, b1, l1⟩ := r_fanIn hw hr hy.1 (show x < 30 by omega) hL (fun hc => by
      have := Tfl_one hc
      simp only [List.length_append] at hl
      omega)
    rw [e1]
    simp only [qqb, nI_1]
    obtain ⟨σ2, e2, b2, l2⟩ := ih (k + 1) m (L ++ Tfl T x [y]) σ1 (hr.sB b1 fanD fanD2) (by omega) h2 (by simp only [List.length_cons] at hm; omega) l1 hl
    refine ⟨σ2, e2, b1.tr b2, ?_⟩
    rw [Tfl_cons, List.append_assoc, ← List.append_assoc]
    exact l2
theorem r_fanOf_28 (hw : Tw T) {x q : Nat} (hx : x < Tn T) (hq : q < Tn T) : ∀ (r : List Nat) (k m : Nat) (L : List Nat) (σ : mS), RT T σ → k ≤ (Tc T q).length → (Tc T q).drop k = r → r.length < m → rowS 78 79 σ L → (L ++ (Tfl T x r ++ (Tfl T x (Tt T x) ++ Tfl T x (Tc T x)))).length ≤ 30 → ∃ σ', f_fanOf_28 m (nI x) (nI q) (nI k) σ = some σ' ∧ sB [78] [79] σ σ' ∧ rowS 78 79 σ' (L ++ (Tfl T x r ++ (Tfl T x (Tt T x) ++ Tfl T x (Tc T x)))) := by
  intro r
  have h30 := hw.n30
  have hcl := hw.clen q
  induction r with
  | nil =>
    intro k m L σ hr hk hd hm hL hl
    obtain ⟨m, rfl⟩ : ∃ m', m = m' + 1 := ⟨m - 1, by omega⟩
    have hk2 := qqDrop0 hd
    rw [f_fanOf_28, hr.cl (by omega)]
    simp only [qqb]
    rw [if_pos (nI_le hk2 (by omega))]
    unfold f_fanOf_60
    exact r_fanOf_62 hw hx (Tt T x) 0 4000 L σ hr (Nat.zero_le _) rfl (by have := hw.tlen x; omega) hL hl
  | cons y r ih =>
    intro k m L σ hr hk hd hm hL hl
    obtain ⟨m, rfl⟩ : ∃ m', m = m' + 1 := ⟨m - 1, by omega⟩
    obtain ⟨h1, h2, h3⟩ := qqDrop hd
    have hy := hw.clt (List.mem_of_getElem? h1)
    rw [Tfl_cons, List.append_assoc, ← List.append_assoc] at hl
    rw [f_fanOf_28, hr.cl (by omega)]
    simp only [qqb]
    rw [if_neg (nI_ge h3 (by omega)), hr.c (by omega) (by omega) h1]
    simp only [qqb]
    obtain ⟨σ1, e1, b1, l1⟩ := r_fanIn hw hr hy.1 (show x < 30 by omega) hL (fun hc => by
      have := Tfl_one hc
      simp only [List.length_append] at hl
      omega)
    rw [e1]
    simp only [qqb, nI_1]
    obtain ⟨σ2, e2, b2, l2⟩ := ih (k + 1) m (L ++ Tfl T x [y]) σ1 (hr.sB b1 fanD fanD2) (by omega) h2 (by simp only [List.length_cons] at hm; omega) l1 hl
    refine ⟨σ2, e2, b1.tr b2, ?_⟩
    rw [Tfl_cons, List.append_assoc, ← List.append_assoc]
    exact l2
theorem Tfan_len (hw : Tw T) {x : Nat} (hx : x < Tn T) : (Tfan T x).length ≤ 30 := by
  have h1 := qqPig (Tn T) _ (Tfan_nodup hw x hx) (fun e he => (Tsp_cases hw ((Tfan_mem hw).mp he)).1)
  have := hw.n30
  omega
theorem r_fanOf (hw : Tw T) (hr : RT T σ) {x : Nat} (hx : x < Tn T) : ∃ σ', f_fanOf (nI x) σ = some σ' ∧ sB [78] [79] σ σ' ∧ rowS 78 79 σ' (Tfan T x) := by
  have h30 := hw.n30
  have hl := Tfan_len hw hx
  have b0 : sB [78] [79] σ (sf σ 79 0) := (sB.rf σ).sf (by simp)
  have hr0 := hr.sB b0 fanD fanD2
  have hL0 : rowS 78 79 (sf σ 79 0) [] := ⟨sf_s _ _ _, fun k y hy => by simp at hy⟩
  have go : Tfs T x = [] → ∃ σ', f_fanOf_60 (nI x) (sf σ 79 0) = some σ' ∧ sB [78] [79] σ σ' ∧ rowS 78 79 σ' (Tfan T x) := by
    intro he
    have e1 : Tfan T x = [] ++ (Tfl T x (Tt T x) ++ Tfl T x (Tc T x)) := by unfold Tfan; rw [he]; rfl
    rw [e1] at hl ⊢
    obtain ⟨σ2, e2, b2, l2⟩ := r_fanOf_62 hw hx (Tt T x) 0 4000 [] (sf σ 79 0) hr0 (Nat.zero_le _) rfl (by have := hw.tlen x; omega) hL0 hl
    exact ⟨σ2, e2, b0.tr b2, l2⟩
  unfold f_fanOf
  rw [r_treeOf hw hr hx]
  simp only [qqb]
  have hq9 : ((Tco T x < (0 : Int32)) = (TH T x = none)) := Tco_neg hw
  cases hq : TH T x with
  | none =>
    rw [if_pos (hq9.mpr hq)]
    exact go (by unfold Tfs; rw [hq])
  | some q =>
    obtain ⟨v, hv, hk⟩ := hr0.k (show x < 30 by omega)
    rw [if_neg (fun z => by rw [hq9.mp z] at hq; cases hq), hv]
    simp only [qqb]
    by_cases h7 : v = nI 7
    · have hk7 := hk.mp h7
      rw [if_pos (show v = (7 : Int32) from h7), Tco_some hw hq]
      have e1 : Tfan T x = [] ++ (Tfl T x (Tc T q) ++ (Tfl T x (Tt T x) ++ Tfl T x (Tc T x))) := by
        unfold Tfan Tfs
        rw [hq]
        show Tfl T x (if Tk T x = true then Tc T q else []) ++ _ = _
        rw [if_pos hk7]
        rfl
      rw [e1] at hl ⊢
      obtain ⟨σ2, e2, b2, l2⟩ := r_fanOf_28 hw hx (TH_lt hw hq).1 (Tc T q) 0 4000 [] (sf σ 79 0) hr0 (Nat.zero_le _) rfl (by have := hw.clen q; omega) hL0 hl
      exact ⟨σ2, e2, b0.tr b2, l2⟩
    · rw [if_neg (show ¬ v = (7 : Int32) from h7)]
      refine go ?_
      unfold Tfs
      rw [hq]
      show (if Tk T x = true then Tc T q else []) = []
      rw [if_neg (fun z => h7 (hk.mpr z))]
def pileS (σ : mS) : List Nat → Prop
  | [] => True
  | x :: r => σ.1 80 r.length = nI x ∧ pileS σ r
theorem pileS_up {P : List Nat} {i : Nat} {v : Int32} (h : pileS σ P) (hi : P.length ≤ i) : pileS (up σ 80 i v) P := by
  induction P with
  | nil => trivial
  | cons x r ih =>
    simp only [List.length_cons] at hi
    refine ⟨?_, ih h.2 (by omega)⟩
    rw [up_s, if_neg (by omega)]
    exact h.1
theorem pileS.sB {σ' : mS} {L1 L2 : List Nat} {P : List Nat} (h : pileS σ P) (k : sB L1 L2 σ σ') (h1 : 80 ∉ L1) : pileS σ' P := by
  induction P with
  | nil => trivial
  | cons x r ih => exact ⟨by rw [k.1 80 h1]; exact h.1, ih h.2⟩
theorem r_ordered_87 {F : Int32 → mS → Option mS} {L : List Nat} : ∀ (j m : Nat) (P : List Nat) (σ : mS), j ≤ L.length → L.length ≤ 30 → j < m → rowS 78 79 σ L → pileS σ P → (L.take j).length + P.length ≤ 30 → ∃ σ', f_ordered_87 F m (nI P.length) (nI j + (-1)) σ = F (nI (L.take j ++ P).length) σ' ∧ sB [80] [] σ σ' ∧ pileS σ' (L.take j ++ P) := by
  intro j
  induction j with
  | zero =>
    intro m P σ hj hl hm hL hP hn
    obtain ⟨m, rfl⟩ : ∃ m', m = m' + 1 := ⟨m - 1, by omega⟩
    rw [f_ordered_87, if_pos (by decide)]
    exact ⟨σ, rfl, sB.rf σ, hP⟩
  | succ j ih =>
    intro m P σ hj hl hm hL hP hn
    obtain ⟨m, rfl⟩ : ∃ m', m = m' + 1 := ⟨m - 1, by omega⟩
    have hx : L[j]? = some L[j] := List.getElem?_eq_getElem (by omega)
    have ht : L.take (j + 1) = L.take j ++ [L[j]] := by rw [List.take_succ, hx]; rfl
    have hn2 : j + 1 + P.length ≤ 30 := by rw [List.length_take] at hn; omega
    rw [f_ordered_87, pk_m1, if_neg (nI_pos (by omega)), rd_78 (by omega)]
    simp only [qqb]
    rw [hL.2 j _ hx, wr_80 (by omega)]
    simp only [qqb]
    have b1 : sB [80] [] σ (up σ 80 P.length (nI L[j])) := (sB.rf σ).up (by simp)
    obtain ⟨σ2, e2, b2, l2⟩ := ih m (L[j] :: P) (up σ 80 P.length (nI L[j])) (by omega) hl (by omega) (hL.sB b1 (by decide) (by decide)) ⟨by rw [up_s, if_pos rfl], pileS_up hP (Nat.le_refl _)⟩ (by rw [List.length_take]; simp only [List.length_cons]; omega)
    have e3 : L.take (j + 1) ++ P = L.take j ++ L[j] :: P := by rw [ht, List.append_assoc]; rfl
    refine ⟨σ2, ?_, b1.tr b2, ?_⟩
    · rw [e3, ← e2, nI_1]
      rfl
    · rw [e3]; exact l2
theorem ordD : ∀ x ∈ [0, 4, 6, 7, 8, 9, 10, 11, 12], x ∉ [75, 78, 80] := by decide
theorem r_ordered_41 (hw : Tw T) : ∀ (k m : Nat) (D P : List Nat) (σ : mS), RT T σ → TI T D P → D.length + k = 30 → k < m → rowS 75 76 σ D → pileS σ P → ∃ σ', f_ordered_41 m (nI P.length) σ = some σ' ∧ sB [75, 78, 80] [76, 79] σ σ' ∧ rowS 75 76 σ' (D ++ TordF T k P) := by
  have h30 := hw.n30
  intro k
  induction k with
  | zero =>
    intro m D P σ hr hI hk hm hD hP
    have h1 := TI_len hI
    have h3 : P = [] := by
      rw [List.length_append] at h1
      cases P with
      | nil => rfl
      | cons a as => simp only [List.length_cons] at h1; omega
    subst h3
    obtain ⟨m, rfl⟩ : ∃ m', m = m' + 1 := ⟨m - 1, by omega⟩
    rw [f_ordered_41, if_pos (by decide)]
    refine ⟨σ, rfl, sB.rf σ, ?_⟩
    show rowS 75 76 σ (D ++ [])
    rw [List.append_nil]
    exact hD
  | succ k ih =>
    intro m D P σ hr hI hk hm hD hP
    obtain ⟨m, rfl⟩ : ∃ m', m = m' + 1 := ⟨m - 1, by omega⟩
    cases P with
    | nil =>
      rw [f_ordered_41, if_pos (by decide)]
      refine ⟨σ, rfl, sB.rf σ, ?_⟩
      show rowS 75 76 σ (D ++ [])
      rw [List.append_nil]
      exact hD
    | cons x r =>
      have hlen := TI_len hI
      rw [List.length_append, List.length_cons] at hlen
      have hx := hI.2.1 x (List.mem_append_right _ List.mem_cons_self)
      have hI2 := TI_step hw hI
      have hlen2 := TI_len hI2
      simp only [List.length_append, List.length_cons, List.length_nil] at hlen2
      rw [f_ordered_41, if_neg (nI_nle (by simp only [List.length_cons]; omega) (by simp only [List.length_cons]; omega))]
      simp only [List.length_cons, pk_m1]
      rw [rd_80 (by omega), hP.1]
      simp only [qqb]
      rw [hD.1, wr_75 (by omega)]
      simp only [qqb]
      have e0 : (up σ 75 D.length (nI x)).2 76 = nI D.length := hD.1
      rw [e0, nI_1]
      have hD1 := rowS_push (x := x) hD
      have b1 : sB [75, 78, 80] [76, 79] σ (sf (up σ 75 D.length (nI x)) 76 (nI (D.length + 1))) := ((sB.rf σ).up (by simp)).sf (by simp)
      have hr1 := hr.sB b1 ordD (by decide)
      have hP1 : pileS (sf (up σ 75 D.length (nI x)) 76 (nI (D.length + 1))) r := pileS.sB hP.2 (L1 := [75]) (L2 := [76]) (((sB.rf σ).up (by simp)).sf (by simp)) (by decide)
      generalize sf (up σ 75 D.length (nI x)) 76 (nI (D.length + 1)) = σ1 at hD1 b1 hr1 hP1 ⊢
      obtain ⟨σ2, e2, b2, l2⟩ := r_fanOf hw hr1 hx.1
      rw [e2]
      simp only [qqb]
      rw [l2.1, show nI (Tfan T x).length - (1 : Int32) = nI (Tfan T x).length + (-1) from Int32.sub_eq_add_neg _ _]
      have hfl := Tfan_len hw hx.1
      obtain ⟨σ3, e3, b3, l3⟩ := r_ordered_87 (F := f_ordered_41 m) (L := Tfan T x) (Tfan T x).length 4000 r σ2 (Nat.le_refl _) hfl (by omega) l2 (hP1.sB b2 (by decide)) (by rw [List.take_length]; omega)
      rw [List.take_length] at e3 l3
      rw [e3]
      have b23 : sB [75, 78, 80] [76, 79] σ1 σ3 := (b2.wd (by simp) (by simp)).tr (b3.wd (by simp) (by simp))
      have hD3 : rowS 75 76 σ3 (D ++ [x]) := (hD1.sB b2 (by decide) (by decide)).sB b3 (by decide) (by decide)
      obtain ⟨σ4, e4, b4, l4⟩ := ih m (D ++ [x]) (Tfan T x ++ r) σ3 (hr1.sB b23 ordD (by decide)) hI2 (by simp only [List.length_append, List.length_cons, List.length_nil]; omega) (by omega) hD3 l3
      refine ⟨σ4, e4, (b1.tr b23).tr b4, ?_⟩
      rw [List.append_assoc] at l4
      exact l4
def shpS (T : qqT) (σ : mS) (k : Nat) : Prop := ∀ e, e < k → σ.1 77 e = qqO (Tsp T e)
theorem r_ordered_2 (hw : Tw T) : ∀ (d m k : Nat) (σ : mS), RT T σ → k + d = Tn T → d < m → shpS T σ k → ∃ σ', f_ordered_2 m (nI k) σ = some σ' ∧ sB [75, 77, 78, 80] [76, 79] σ σ' ∧ rowS 75 76 σ' (Tord T) ∧ shpS T σ' (Tn T) := by
  have h30 := hw.n30
  intro d
  induction d with
  | zero =>
    intro m k σ hr hk hm hs
    obtain ⟨m, rfl⟩ : ∃ m', m = m' + 1 := ⟨m - 1, by omega⟩
    have hk : k = Tn T := by omega
    subst hk
    rw [f_ordered_2, hr.n, if_pos (nI_le (Nat.le_refl _) (by omega)), show (0 : Int32) = nI 0 from rfl, wr_80 (by omega)]
    simp only [qqb]
    have b1 : sB [75, 78, 80] [76, 79] σ (up (sf σ 76 (nI 0)) 80 0 (nI 0)) := ((sB.rf σ).sf (by simp)).up (by simp)
    have hD : rowS 75 76 (up (sf σ 76 (nI 0)) 80 0 (nI 0)) [] := ⟨by rw [up_2, sf_s]; rfl, fun k y hy => by simp at hy⟩
    have hP : pileS (up (sf σ 76 (nI 0)) 80 0 (nI 0)) [0] := ⟨by rw [up_s]; exact if_pos rfl, trivial⟩
    obtain ⟨σ2, e2, b2, l2⟩ := r_ordered_41 hw 30 4000 [] [0] _ (hr.sB b1 ordD (by decide)) (TI_0 hw) rfl (by omega) hD hP
    refine ⟨σ2, e2, ((b1.tr b2).wd (by simp) (by simp)), l2, fun e he => ?_⟩
    rw [(b1.tr b2).1 77 (by decide)]
    exact hs e he
  | succ d ih =>
    intro m k σ hr hk hm hs
    obtain ⟨m, rfl⟩ : ∃ m', m = m' + 1 := ⟨m - 1, by omega⟩
    rw [f_ordered_2, hr.n, if_neg (nI_ge (by omega) (by omega)), r_shown hw hr (by omega)]
    simp only [qqb]
    rw [wr_77 (by omega)]
    simp only [qqb, nI_1]
    have b1 : sB [75, 77, 78, 80] [76, 79] σ (up σ 77 k (qqO (Tsp T k))) := (sB.rf σ).up (by simp)
    obtain ⟨σ2, e2, b2, l2, s2⟩ := ih m (k + 1) _ (hr.sB b1 (by decide) (by decide)) (by omega) (by omega) (fun e he => by
      rw [up_s]
      by_cases h : e = k
      · rw [if_pos h, h]
      · rw [if_neg h]; exact hs e (by omega))
    exact ⟨σ2, e2, b1.tr b2, l2, s2⟩
theorem r_ordered (hw : Tw T) (hr : RT T σ) : ∃ σ', f_ordered σ = some σ' ∧ sB [75, 77, 78, 80] [76, 79] σ σ' ∧ rowS 75 76 σ' (Tord T) ∧ shpS T σ' (Tn T) := r_ordered_2 hw (Tn T) 4000 0 σ hr (by omega) (by have := hw.n30; omega) (fun e he => by omega)
end RT3
