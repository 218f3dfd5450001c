theorem r_bounded (x : Int64) : f_bounded x = some (vBd x) := by
  unfold f_bounded f_bounded_30 vBd
  by_cases h1 : (0 : Int32) ≤ lg_cmp x (-100000)
  · rw [if_pos h1, if_pos h1]
    by_cases h2 : lg_cmp x 100000 ≤ (0 : Int32)
    · rw [if_pos h2, if_pos h2]
    · rw [if_neg h2, if_neg h2]
  · rw [if_neg h1, if_neg h1]
theorem ldv100 (x : Int64) : ldv x 100 = some (x / 100) := if_neg (by decide)
theorem lg_ge {x y : Int64} (h : y.toInt ≤ x.toInt) : (0 : Int32) ≤ lg_cmp x y := by
  unfold lg_cmp
  by_cases h1 : x > y
  · rw [if_pos h1]; decide
  · rw [if_neg h1]
    have h2 : x = y := Int64.toInt_inj.mp (by
      have : ¬ y.toInt < x.toInt := fun z => h1 (Int64.lt_iff_toInt_lt.mpr z)
      omega)
    rw [if_pos h2]; decide
theorem lg_le {x y : Int64} (h : x.toInt ≤ y.toInt) : lg_cmp x y ≤ (0 : Int32) := by
  unfold lg_cmp
  have h1 : ¬ x > y := fun z => by
    have := Int64.lt_iff_toInt_lt.mp z
    omega
  rw [if_neg h1]
  by_cases h2 : x = y
  · rw [if_pos h2]; decide
  · rw [if_neg h2]; decide
theorem vBd_sm {n : Int32} (h : sm n) : vBd n.toInt64 = n := by
  obtain ⟨h1, h2⟩ := h
  unfold vBd
  rw [if_pos (lg_ge (by rw [Int32.toInt_toInt64, show (-100000 : Int64).toInt = -100000 by decide]; omega)), if_pos (lg_le (by rw [Int32.toInt_toInt64, show (100000 : Int64).toInt = 100000 by decide]; omega)), Int32.toInt32_toInt64]
theorem r_suits (p : Nat) (hp : p < 16) (u : Int32) : f_suits (nI p) u = some (b2 (vSu p u)) := by
  have e1 : ∀ a b : Nat, a < 100 → b < 100 → f_in (nI p) (nI a) (nI b) = some (b2 (decide (a ≤ p ∧ p ≤ b))) := by
    intro a b ha hb
    rw [r_in]
    congr 2
    rw [decide_eq_decide, nI_leE (by omega) (by omega), nI_leE (by omega) (by omega)]
  have e77 : f_suits_77 = some (b2 false) := rfl
  have e73 : f_suits_73 = some (b2 true) := rfl
  have e62 : f_suits_62 (nI p) u = some (b2 (decide (u = 6) && decide (p = 2))) := by
    unfold f_suits_62
    rw [e77, e73]
    by_cases c : u = 6
    · rw [if_pos c, decide_eq_true c, iq2 (by omega)]
      by_cases d : p = 2
      · rw [if_pos d, decide_eq_true d]; rfl
      · rw [if_neg d, decide_eq_false d]; rfl
    · rw [if_neg c, decide_eq_false c]; rfl
  have e47 : f_suits_47 (nI p) u = some (b2 ((decide (u = 4) && decide (1 ≤ p ∧ p ≤ 2)) || (decide (u = 6) && decide (p = 2)))) := by
    unfold f_suits_47
    by_cases c : u = 4
    · rw [if_pos c, show (1 : Int32) = nI 1 from rfl, show (2 : Int32) = nI 2 from rfl, e1 1 2 (by decide) (by decide), qqx, b2_i0, e62, e73, decide_eq_true c]
      cases decide (1 ≤ p ∧ p ≤ 2) <;> rfl
    · rw [if_neg c, e62, decide_eq_false c]; rfl
  have e43 : ∀ l, f_suits_43 (nI p) u (b2 l) = some (b2 (l || ((decide (u = 4) && decide (1 ≤ p ∧ p ≤ 2)) || (decide (u = 6) && decide (p = 2))))) := by
    intro l
    unfold f_suits_43
    rw [b2_i0, e47, e73]
    cases l <;> rfl
  have e28 : ∀ l, f_suits_28 (nI p) u (b2 l) = some (b2 (((decide (1 ≤ u ∧ u ≤ 3) || decide (u = 5)) && l) || ((decide (u = 4) && decide (1 ≤ p ∧ p ≤ 2)) || (decide (u = 6) && decide (p = 2))))) := by
    intro l
    unfold f_suits_28
    rw [r_in, qqx, b2_i0, e43, e47]
    by_cases c5 : u = 5
    · rw [if_pos c5, decide_eq_true c5]
      cases decide (1 ≤ u ∧ u ≤ 3) <;> rfl
    · rw [if_neg c5, decide_eq_false c5]
      cases decide (1 ≤ u ∧ u ≤ 3) <;> rfl
  unfold f_suits vSu
  rw [show (1 : Int32) = nI 1 from rfl, show (4 : Int32) = nI 4 from rfl, e1 1 4 (by decide) (by decide), qqx, e73, e28, b2_i0]
  by_cases c6 : (6 : Int32) < u
  · rw [if_pos c6, decide_eq_true c6]; rfl
  · rw [if_neg c6, decide_eq_false c6, igt11 (by omega)]
    by_cases c11 : 11 < p
    · rw [if_pos c11, decide_eq_true c11]; rfl
    · rw [if_neg c11, decide_eq_false c11]
      by_cases c0 : u = 0
      · rw [if_pos c0, decide_eq_true c0]
        cases decide (1 ≤ p ∧ p ≤ 4) <;> rfl
      · rw [if_neg c0, decide_eq_false c0]; rfl
theorem r_initial (p : Nat) (hp : p < 16) : f_initial (nI p) = some (vI0 p) := by
  have : ∀ p, p < 16 → f_initial (nI p) = some (vI0 p) := by decide +kernel
  exact this p hp
section RK
variable {T : qqT} {G : qqG} {σ : mS}
def unOK (p : Nat) (un : Int32 × Int32) : Prop := (∃ k, k < 11 ∧ un.1 = nI k) ∧ (un.1 < 2 → sm un.2) ∧ (un.1 = 4 → p = 1 ∨ p = 2)
theorem r_hd (n b : Int32) {α : Type} (F : Int32 → Option α) : ((ldv (n.toInt64 * b.toInt64) (100 : Int64)).bind (fun v1 => (f_bounded v1).bind F)) = F (vHd n b) := by
  rw [ldv100, qqx, r_bounded, qqx]
  rfl
theorem rI_P {ar e : Nat} {tr : Bool} : qiP (rI T G σ ar e tr) = (Tsp T e).map (fun y => fun p => σ.1 43 (12 * (30 * ar + y) + p)) := by
  unfold qiP rI
  cases Tsp T e <;> rfl
theorem r_reckoned (hw : Tw T) (rs : RS T G σ) {σ' : mS} {into ar e p : Nat} (b : rW into e σ σ') (har : ar < 3) (hin : into < 3) (he : e < Tn T) (hd : TD T e = true) (hp : p < 12) (tr : Bool) {un : Int32 × Int32} (hu : unOK p un) (h8 : ¬ (un.1 = 8 ∨ (un.1 = 9 ∧ p < 2))) (h6 : ¬ 6 < un.1) (htop : e ≠ 0 → σ.1 43 (360 * ar + 1) = (rI T G σ ar e tr).2.2.1) : f_reckoned (nI e) (nI p) un.1 un.2 (nI ar) (nI into) (b2 tr) σ' = some (vEv (qiP (rI T G σ ar e tr)) (σ'.1 43 (12 * (30 * into + e) + 1)) (rI T G σ ar e tr).2.2.1 (qHe σ (rI T G σ ar e tr)) (σ.2 50) p un) := by
  have h30 := hw.n30
  have rs' := rs.W b
  obtain ⟨-, hu2, hu4⟩ := hu
  have hpar : ∀ y q, Tsp T e = some y → q < 12 → σ'.1 43 (12 * (30 * ar + y) + q) = σ.1 43 (12 * (30 * ar + y) + q) := by
    intro y q hy hq
    have hy9 := Tsp_cases hw hy
    have hne : y ≠ e := fun z => by have := Tsp_m hw hy; rw [z] at this; omega
    exact b.2.2.1 _ (by omega)
  have h0 : (Tsp T e = none) = (e = 0) := propext ⟨fun h => TD_top hw he hd h, fun h => by rw [h]; exact Tsp_0 hw⟩
  have e74 : ∀ L, L = (if p = 1 then (vLe (qiP (rI T G σ ar e tr))) else σ'.1 43 (12 * (30 * into + e) + 1)) → f_reckoned_74 (nI e) (nI p) un.1 (nI ar) (b2 tr) un.2.toInt64 (nI (12 * (30 * into + e))) ((12 : Int32) * ((30 : Int32) * nI ar + qqO (Tsp T e))) L σ' = some (vEv (qiP (rI T G σ ar e tr)) (σ'.1 43 (12 * (30 * into + e) + 1)) (rI T G σ ar e tr).2.2.1 (qHe σ (rI T G σ ar e tr)) (σ.2 50) p un) := by
    intro L hL
    unfold f_reckoned_74 vEv
    rw [if_neg h8, if_neg h6]
    by_cases c1 : un.1 < 2
    · rw [if_neg (Int32.not_le.mpr c1), if_pos c1, r_bounded, vBd_sm (hu2 c1)]
      rfl
    · rw [if_pos (Int32.not_lt.mp c1), if_neg c1]
      by_cases c2 : un.1 = 2
      · rw [if_pos c2, if_pos c2, r_hd, hL]
      · rw [if_neg c2, if_neg c2]
        by_cases c3 : un.1 = 3
        · rw [if_pos c3, if_pos c3]
          unfold f_reckoned_152
          by_cases ce : e = 0
          · have hs := h0.mpr ce
            rw [if_pos (by rw [ce]; rfl), rI_P, hs]
            rw [iq1 (by omega)]
            show _ = some (vHd un.2 (if p = 1 then 16 else σ'.1 43 (12 * (30 * into + e) + 1)))
            by_cases cp : p = 1
            · rw [if_pos cp, if_pos cp, r_hd]
            · rw [if_neg cp, if_neg cp, show (1 : Int32) = nI 1 from rfl, nI_add, rd_43 (by omega), qqx, r_hd]
          · rw [if_neg (by rw [← nI_0, nI_eqE (by omega) (by decide)]; exact ce), show (360 : Int32) = nI 360 from rfl, show (1 : Int32) = nI 1 from rfl, pk_mul, nI_add, rd_43 (by omega), qqx, r_hd]
            have hs : ∃ y, Tsp T e = some y := by
              cases hs : Tsp T e with
              | none => exact absurd (h0.mp hs) ce
              | some y => exact ⟨y, rfl⟩
            obtain ⟨y, hs⟩ := hs
            rw [b.2.2.1 _ (by omega), htop ce, rI_P, hs]
            rfl
        · rw [if_neg c3, if_neg c3]
          by_cases c4 : un.1 = 4
          · rw [if_pos c4, if_pos c4, iq1 (by omega)]
            unfold f_reckoned_209 f_reckoned_230 f_reckoned_244
            by_cases cp : p = 1
            · rw [if_pos cp, if_pos cp, iq2 (by omega), if_neg (by omega), r_hd, hL, if_pos cp]
            · have cp2 : p = 2 := (hu4 c4).resolve_left cp
              rw [if_neg cp, if_neg cp, rs'.sp hw he, qqx, rI_P]
              cases hs : Tsp T e with
              | none =>
                rw [if_neg (show ¬ 0 ≤ qqO none by decide), iq2 (by omega), if_pos cp2]
                show _ = some (if σ.2 50 = -1000000 then -1000000 else vHd un.2 (σ.2 50))
                rw [b.1, r_hd]
                by_cases cA : σ.2 50 = -1000000
                · rw [if_pos cA, if_pos cA]
                · rw [if_neg cA, if_neg cA]
              | some y =>
                have hy9 := Tsp_cases hw hs
                rw [if_pos (show 0 ≤ qqO (some y) from nI_pos' (by omega)), qqO_some, ix12, show (2 : Int32) = nI 2 from rfl, nI_add, rd_43 (by omega), qqx, iqI (by omega) (by decide), if_pos cp2, hpar y 2 hs (by decide), r_hd]
                show _ = some (if σ.1 43 (12 * (30 * ar + y) + 2) = -1000000 then -1000000 else vHd un.2 (σ.1 43 (12 * (30 * ar + y) + 2)))
                by_cases cA : σ.1 43 (12 * (30 * ar + y) + 2) = -1000000
                · rw [if_pos cA, if_pos cA]
                · rw [if_neg cA, if_neg cA]
          · rw [if_neg c4, if_neg c4]
            by_cases c5 : un.1 = 5
            · rw [if_pos c5, if_pos c5, b2_i0]
              unfold f_reckoned_266 f_reckoned_296
              have eH : qHe σ (rI T G σ ar e tr) = qHo (σ.2 50) (if tr then none else hsz T σ ar e) := rfl
              rw [eH]
              cases tr with
              | true =>
                rw [if_pos rfl, if_neg (by decide), r_hd, b.1]
                rfl
              | false =>
                rw [if_neg (by decide), r_holder hw rs'.2.2 har he, qqx]
                rw [show (if false = true then none else hsz T σ ar e) = hsz T σ ar e from rfl, ← hsz_W hw he b]
                unfold hsz
                cases hq : Tho T (Hv σ' ar) e with
                | none =>
                  rw [if_neg (show ¬ 0 ≤ qqO none by decide), r_hd, b.1]
                  rfl
                | some h =>
                  have hh := Tho_lt hw e he hq
                  rw [if_pos (show 0 ≤ qqO (some h) from nI_pos' (by omega)), qqO_some, show (30 : Int32) = nI 30 from rfl, pk_mul, nI_add, rd_46 (by omega), qqx, r_hd]
                  rfl
            · rw [if_neg c5, if_neg c5]
  unfold f_reckoned
  rw [rs'.sp hw he, qqx, iq1 (by omega)]
  by_cases cp : p = 1
  · rw [if_pos cp, qqx]
    have hl : ∀ L, L = (vLe (qiP (rI T G σ ar e tr))) → L = (if p = 1 then (vLe (qiP (rI T G σ ar e tr))) else σ'.1 43 (12 * (30 * into + e) + 1)) := fun L h => by rw [if_pos cp]; exact h
    cases hs : Tsp T e with
    | none =>
      rw [hs] at e74
      rw [if_neg (show ¬ 0 ≤ qqO none by decide), ix12]
      exact e74 16 (hl 16 (by rw [rI_P, hs]; rfl))
    | some y =>
      have hy9 := Tsp_cases hw hs
      rw [hs] at e74
      rw [if_pos (show 0 ≤ qqO (some y) from nI_pos' (by omega)), qqO_some, ix12, ix12, show (1 : Int32) = nI 1 from rfl, nI_add, rd_43 (by omega), qqx, hpar y 1 hs (by decide)]
      rw [qqO_some, ix12] at e74
      exact e74 _ (hl _ (by rw [rI_P, hs]; rfl))
  · rw [if_neg cp, ix12, show (1 : Int32) = nI 1 from rfl, nI_add, rd_43 (by omega), qqx]
    exact e74 _ (by rw [if_neg cp])
def rkU (into e p : Nat) (v : Int32) (im : Bool) (σ : mS) : mS := if p < 5 ∧ into = 0 then up (up σ 43 (12 * (30 * into + e) + p) v) 47 (5 * e + p) (b2 im) else up σ 43 (12 * (30 * into + e) + p) v
theorem r_reckon_256 {into e p : Nat} (he : e < 30) (hin : into < 3) (hp : p < 12) {b : Option Nat} (hb : ∀ a, b = some a → a < 70) (v : Int32) (σ' : mS) : f_reckon_256 (nI e) (nI p) (nI into) (rwc p b) (nI (12 * (30 * into + e) + p)) v σ' = some (rkU into e p v (qImb σ' p b) σ') := by
  unfold f_reckon_256 f_reckon_298 f_reckon_296 f_reckon_297 rkU
  rw [wr_43 (by omega), qqx]
  by_cases c5 : p < 5
  · rw [if_neg (ge5 c5)]
    by_cases c0 : into = 0
    · rw [if_pos (show nI into = 0 by rw [c0]; rfl), if_pos (show p < 5 ∧ into = 0 from ⟨c5, c0⟩), show (5 : Int32) = nI 5 from rfl, pk_mul, nI_add]
      cases b with
      | none =>
        rw [if_pos (show rwc p none < 0 from (by decide : (-1 : Int32) < 0)), wr_47 (by omega), qqx]
        rfl
      | some a =>
        have := hb a rfl
        rw [if_neg (show ¬ rwc p (some a) < 0 from nI_pos (by omega))]
        show ((rd _ 39 (nI (16 * a + p))).bind _) = _
        rw [rd_39 (by omega), qqx, up_o (by decide)]
        show _ = some (up _ 47 (5 * e + p) (b2 (Lim σ' p a)))
        unfold Lim
        by_cases c : σ'.1 39 (16 * a + p) = 1
        · rw [if_pos c, wr_47 (by omega), qqx, decide_eq_true c]; rfl
        · rw [if_neg c, wr_47 (by omega), qqx, decide_eq_false c]; rfl
    · rw [if_neg (by rw [← nI_0, nI_eqE (by omega) (by decide)]; exact c0), if_neg (fun z => c0 z.2)]
  · rw [if_pos (le5 (by omega) (by omega)), if_neg (fun z => c5 z.1)]
theorem r_reckon_169 (hw : Tw T) (rs : RS T G σ) {σ' : mS} {into ar e p : Nat} (b : rW into e σ σ') (har : ar < 3) (hin : into < 3) (he : e < Tn T) (hd : TD T e = true) (hp : p < 12) (tr : Bool) {un : Int32 × Int32} (hu : unOK p un) (htop : e ≠ 0 → σ.1 43 (360 * ar + 1) = (rI T G σ ar e tr).2.2.1) {x6 : Int32} : f_reckon_169 (nI e) (nI p) (nI ar) (nI into) (b2 tr) x6 un.1 un.2 σ' = f_reckon_256 (nI e) (nI p) (nI into) x6 (nI (12 * (30 * into + e) + p)) (vEv (qiP (rI T G σ ar e tr)) (σ'.1 43 (12 * (30 * into + e) + 1)) (rI T G σ ar e tr).2.2.1 (qHe σ (rI T G σ ar e tr)) (σ.2 50) p un) σ' := by
  have h30 := hw.n30
  have rs' := rs.W b
  unfold f_reckon_169 f_reckon_188 f_reckon_192 f_reckon_193
  rw [if_neg (show ¬ (1 : Int32) = 0 by decide), if_pos (show (0 : Int32) = 0 from rfl), ix12, nI_add]
  have inh : (un.1 = 8 ∨ (un.1 = 9 ∧ p < 2)) → ((f_inherited (nI e) (nI p) (nI ar) σ').bind (fun v3 => f_reckon_256 (nI e) (nI p) (nI into) x6 (nI (12 * (30 * into + e) + p)) v3 σ')) = f_reckon_256 (nI e) (nI p) (nI into) x6 (nI (12 * (30 * into + e) + p)) (vEv (qiP (rI T G σ ar e tr)) (σ'.1 43 (12 * (30 * into + e) + 1)) (rI T G σ ar e tr).2.2.1 (qHe σ (rI T G σ ar e tr)) (σ.2 50) p un) σ' := by
    intro h8
    have e1 : vEv (qiP (rI T G σ ar e tr)) (σ'.1 43 (12 * (30 * into + e) + 1)) (rI T G σ ar e tr).2.2.1 (qHe σ (rI T G σ ar e tr)) (σ.2 50) p un = vPa (qiP (rI T G σ ar e tr)) p := if_pos h8
    rw [e1, rI_P]
    unfold f_inherited f_inherited_38
    rw [rs'.sp hw he, qqx]
    cases hs : Tsp T e with
    | none =>
      rw [if_neg (show ¬ 0 ≤ qqO none by decide), r_initial p (by omega)]
      rfl
    | some y =>
      have hy9 := Tsp_cases hw hs
      have hne : y ≠ e := fun z => by have := Tsp_m hw hs; rw [z] at this; omega
      rw [if_pos (show 0 ≤ qqO (some y) from nI_pos' (by omega)), qqx, qqO_some, ix12, nI_add, rd_43 (by omega), b.2.2.1 _ (by omega)]
      rfl
  have rest : ¬ (un.1 = 8 ∨ (un.1 = 9 ∧ p < 2)) → (if un.1 ≤ 6 then (f_reckoned (nI e) (nI p) un.1 un.2 (nI ar) (nI into) (b2 tr) σ').bind (fun v1 => f_reckon_256 (nI e) (nI p) (nI into) x6 (nI (12 * (30 * into + e) + p)) v1 σ') else (f_initial (nI p)).bind (fun v2 => f_reckon_256 (nI e) (nI p) (nI into) x6 (nI (12 * (30 * into + e) + p)) v2 σ')) = f_reckon_256 (nI e) (nI p) (nI into) x6 (nI (12 * (30 * into + e) + p)) (vEv (qiP (rI T G σ ar e tr)) (σ'.1 43 (12 * (30 * into + e) + 1)) (rI T G σ ar e tr).2.2.1 (qHe σ (rI T G σ ar e tr)) (σ.2 50) p un) σ' := by
    intro h8
    by_cases c6 : un.1 ≤ 6
    · rw [if_pos c6, r_reckoned hw rs b har hin he hd hp tr hu h8 (Int32.not_lt.mpr c6) htop, qqx]
    · rw [if_neg c6, r_initial p (by omega), qqx]
      have e1 : vEv (qiP (rI T G σ ar e tr)) (σ'.1 43 (12 * (30 * into + e) + 1)) (rI T G σ ar e tr).2.2.1 (qHe σ (rI T G σ ar e tr)) (σ.2 50) p un = vI0 p := by
        unfold vEv
        rw [if_neg h8, if_pos (Int32.not_le.mp c6)]
      rw [e1]
  by_cases c8 : un.1 = 8
  · rw [if_pos c8]; exact inh (Or.inl c8)
  · rw [if_neg c8]
    by_cases c9 : un.1 = 9
    · rw [if_pos c9]
      by_cases cp : p < 2
      · rw [if_neg (ge2 cp)]; exact inh (Or.inr ⟨c9, cp⟩)
      · rw [if_pos (le2 (by omega) (by omega))]; exact rest (fun z => z.elim c8 (fun y => cp y.2))
    · rw [if_neg c9]; exact rest (fun z => z.elim c8 (fun y => c9 y.1))
theorem vSu_4 {p : Nat} (hp : p < 12) {u : Int32} (h : vSu p u = true) (h4 : u = 4) : p = 1 ∨ p = 2 := by
  subst h4
  have : ∀ p, p < 12 → vSu p 4 = true → p = 1 ∨ p = 2 := by decide +kernel
  exact this p hp h
theorem qVar_ok {P : Option (Nat → qP)} {R : Nat → Option Nat} (hok : vOK σ R) (hP : ∀ f, P = some f → ∀ v, v < 3 → okP (f v)) {v : Nat} (hv : v < 3) : okP (qVar σ P R v) := by
  have hlt := (vK3_eq (P := P) (fun v hv a ha => (hok v hv a ha).1) hv).2
  cases hn : vNd σ v (R (12 + v)) with
  | false =>
    rw [qVar_own hv (fun a ha => (hok v hv a ha).1) (fun f hf => hP f hf v hv) hn]
    exact vBa_ok (fun a ha => (hok v hv a ha).1) (fun f hf => hP f hf v hv)
  | true =>
    unfold qVar vSy
    by_cases c1 : sRf (vK3 σ P R) v < 3
    · rw [if_pos c1]
      exact vBa_ok (fun a ha => (hok _ c1 a ha).1) (fun f hf => hP f hf _ c1)
    · rw [if_neg c1]
      by_cases c2 : sRf (vK3 σ P R) v < 6
      · rw [if_pos c2]
        have key := s_eq2 _ (vKn_8 (P := P) (v := 0) (fun a ha => (hok 0 (by decide) a ha).1)) _ (vKn_8 (P := P) (v := 1) (fun a ha => (hok 1 (by decide) a ha).1)) _ (vKn_8 (P := P) (v := 2) (fun a ha => (hok 2 (by decide) a ha).1)) v hv
        obtain ⟨h2, h3⟩ := key.resolve_left (fun z => z ⟨show 3 ≤ sRf (vK3 σ P R) v by omega, c2⟩)
        have h2 : 2 ≤ g3 (vK3 σ P R) (sRf (vK3 σ P R) v - 3) := h2
        have h3 : g3 (vK3 σ P R) (sRf (vK3 σ P R) v - 3) % 2 = 1 := h3
        have hw3 : sRf (vK3 σ P R) v - 3 < 3 := by omega
        generalize sRf (vK3 σ P R) v - 3 = w at h2 h3 hw3 ⊢
        rw [vK3_g σ P R w hw3] at h2 h3
        cases hnw : vNd σ w (R (12 + w)) with
        | false =>
          have := (vKn_n (P := P) hnw).1
          unfold sG at this
          rw [if_neg (by omega)] at this
          cases this
        | true =>
          have := (vKn_y (P := P) hnw).2.1
          rw [decide_eq_true h3] at this
          exact (vSc_ok (fun a ha => (hok w hw3 a ha).1) hnw this.symm).1
      · rw [if_neg c2]; exact okP_m
theorem vEv_9 {P : Option (Nat → Int32)} {a b c d : Int32} {p : Nat} (n m : Int32) : vEv P a b c d p (9, n) = vEv P a b c d p (9, m) := by
  unfold vEv
  by_cases hp : p < 2
  · rw [if_pos (Or.inr ⟨rfl, hp⟩), if_pos (Or.inr ⟨rfl, hp⟩)]
  · have h8 : ∀ n : Int32, ¬ (((9, n) : Int32 × Int32).1 = (8 : Int32) ∨ (((9, n) : Int32 × Int32).1 = (9 : Int32) ∧ p < 2)) := fun n z => z.elim (fun y => absurd (show (9 : Int32) = 8 from y) (by decide)) (fun y => hp y.2)
    rw [if_neg (h8 n), if_neg (h8 m), if_pos (show (6 : Int32) < 9 by decide), if_pos (show (6 : Int32) < 9 by decide)]
theorem vUn_ok {V : Nat → qP} {p : Nat} (hp : p < 12) {b : Option Nat} (h : ∀ a, b = some a → rOK σ p a ∧ ¬ σ.1 37 (16 * a + p) = 10) (hV : ∀ v, v < 3 → okP (V v)) : unOK p (vUn σ V p b) := by
  have o9 : unOK p (9, 0) := ⟨⟨9, by decide, rfl⟩, fun z => absurd (show (9 : Int32) < 2 from z) (by decide), fun z => absurd (show (9 : Int32) = 4 from z) (by decide)⟩
  cases b with
  | none => exact o9
  | some a =>
    obtain ⟨⟨u, hu, h1, h2, h3, h4⟩, h10⟩ := h a rfl
    by_cases c : σ.1 37 (16 * a + p) = 11
    · have hu11 : u = 11 := by rw [h1] at c; exact (nI_eq (b := 11) (by omega) (by decide)).mp c
      obtain ⟨⟨v, hv, hv2⟩, h5⟩ := h4 hu11
      have hvv : (σ.1 40 (16 * a + p)).toNatClampNeg - 12 = v := by rw [hv2, nI_clamp (by omega)]; omega
      have e1 : vUn σ V p (some a) = if (V v).1 < 0 then (if σ.1 41 (16 * a + p) < 0 then (9, 0) else if vSu p (σ.1 41 (16 * a + p)) = true then (σ.1 41 (16 * a + p), σ.1 42 (16 * a + p)) else (9, 0)) else if vSu p (V v).1 = true then V v else (9, 0) := by
        rw [← hvv]
        exact if_pos c
      rw [e1]
      by_cases c1 : (V v).1 < 0
      · rw [if_pos c1]
        rcases h5 with h6 | ⟨w, hw7, h6, h7⟩
        · rw [if_pos (by rw [h6]; decide)]; exact o9
        · rw [if_neg (by rw [h6]; exact nI_pos (by omega))]
          by_cases c2 : vSu p (σ.1 41 (16 * a + p)) = true
          · rw [if_pos c2]
            refine ⟨⟨w, by omega, h6⟩, fun z => h7 ?_, fun z => vSu_4 hp c2 z⟩
            have z : σ.1 41 (16 * a + p) < 2 := z
            rw [h6] at z
            have := (nI_ltI (b := 2) (by omega) (by decide)).mp z
            omega
          · rw [if_neg c2]; exact o9
      · rw [if_neg c1]
        by_cases c2 : vSu p (V v).1 = true
        · rw [if_pos c2]
          rcases hV v hv with h6 | ⟨w, hw7, h6, h7⟩
          · rw [h6] at c1; exact absurd (by decide) c1
          · exact ⟨⟨w, by omega, h6⟩, fun _ => h7, fun z => vSu_4 hp c2 z⟩
        · rw [if_neg c2]; exact o9
    · have e1 : vUn σ V p (some a) = (σ.1 37 (16 * a + p), σ.1 38 (16 * a + p)) := if_neg c
      rw [e1]
      have hu11 : u ≠ 11 := fun z => c (by rw [h1, z]; rfl)
      refine ⟨⟨u, by omega, h1⟩, fun z => h2 ?_, fun z => ?_⟩
      · have z : σ.1 37 (16 * a + p) < 2 := z
        rw [h1] at z
        have := (nI_ltI (b := 2) (by omega) (by decide)).mp z
        omega
      · have z : σ.1 37 (16 * a + p) = 4 := z
        rw [h1] at z
        have := h3 ((nI_eq (b := 4) (by omega) (by decide)).mp z)
        omega
theorem vSu_9 (p : Nat) : vSu p 9 = true := by
  unfold vSu
  rw [decide_eq_true (show (6 : Int32) < 9 by decide)]
  rfl
theorem r_reckon (hw : Tw T) (rs : RS T G σ) {σ' : mS} {into ar e p : Nat} (b : rW into e σ σ') (har : ar < 3) (hin : into < 3) (he : e < Tn T) (hd : TD T e = true) (hp : p < 12) (tr : Bool) (hok : vOK σ (rI T G σ ar e tr).1) (hP : ∀ f, qiV (rI T G σ ar e tr) = some f → ∀ v, v < 3 → okP (f v)) (hr : ∀ a, (rI T G σ ar e tr).1 p = some a → rOK σ p a) (hV : vrW σ' (3 * (30 * into + e)) 3 (qVr σ (rI T G σ ar e tr))) (htop : e ≠ 0 → σ.1 43 (360 * ar + 1) = (rI T G σ ar e tr).2.2.1) : f_reckon (nI e) (nI p) (nI ar) (nI into) (b2 tr) σ' = some (rkU into e p (vEv (qiP (rI T G σ ar e tr)) (σ'.1 43 (12 * (30 * into + e) + 1)) (rI T G σ ar e tr).2.2.1 (qHe σ (rI T G σ ar e tr)) (σ.2 50) p (vUn σ (qVr σ (rI T G σ ar e tr)) p ((rI T G σ ar e tr).1 p))) (qIm σ (rI T G σ ar e tr) p) σ') := by
  have h30 := hw.n30
  have hVo : ∀ v, v < 3 → okP (qVr σ (rI T G σ ar e tr) v) := fun v hv => qVar_ok hok hP hv
  have hun := vUn_ok (σ := σ) (V := qVr σ (rI T G σ ar e tr)) hp (b := (rI T G σ ar e tr).1 p) (fun a ha => ⟨hr a ha, (Lfnd_vr rs.2.1 he ha).2.2⟩) hVo
  have fin : ∀ un : Int32 × Int32, unOK p un → vEv (qiP (rI T G σ ar e tr)) (σ'.1 43 (12 * (30 * into + e) + 1)) (rI T G σ ar e tr).2.2.1 (qHe σ (rI T G σ ar e tr)) (σ.2 50) p un = vEv (qiP (rI T G σ ar e tr)) (σ'.1 43 (12 * (30 * into + e) + 1)) (rI T G σ ar e tr).2.2.1 (qHe σ (rI T G σ ar e tr)) (σ.2 50) p (vUn σ (qVr σ (rI T G σ ar e tr)) p ((rI T G σ ar e tr).1 p)) → f_reckon_169 (nI e) (nI p) (nI ar) (nI into) (b2 tr) (rwc p ((rI T G σ ar e tr).1 p)) un.1 un.2 σ' = some (rkU into e p (vEv (qiP (rI T G σ ar e tr)) (σ'.1 43 (12 * (30 * into + e) + 1)) (rI T G σ ar e tr).2.2.1 (qHe σ (rI T G σ ar e tr)) (σ.2 50) p (vUn σ (qVr σ (rI T G σ ar e tr)) p ((rI T G σ ar e tr).1 p))) (qIm σ (rI T G σ ar e tr) p) σ') := by
    intro un hu heq
    have h256 := fun v => r_reckon_256 (e := e) (into := into) (p := p) (b := (rI T G σ ar e tr).1 p) (by omega) hin hp (fun a ha => (Lfnd_vr rs.2.1 he ha).1.lt hw rs.2.1) v σ'
    rw [r_reckon_169 hw rs b har hin he hd hp tr hu htop, h256, heq]
    have e1 : qImb σ' p ((rI T G σ ar e tr).1 p) = qIm σ (rI T G σ ar e tr) p := by
      unfold qIm
      cases (rI T G σ ar e tr).1 p with
      | none => rfl
      | some a =>
        show Lim σ' p a = Lim σ p a
        unfold Lim
        rw [b.o (f := 39)]
    rw [e1]
  have o9 : ∀ n, unOK p (9, n) := fun n => ⟨⟨9, by decide, rfl⟩, fun z => absurd (show (9 : Int32) < 2 from z) (by decide), fun z => absurd (show (9 : Int32) = 4 from z) (by decide)⟩
  unfold f_reckon
  rw [r_foundW hw rs b har he (by omega) tr, qqx]
  cases hR : (rI T G σ ar e tr).1 p with
  | none =>
    rw [hR] at fin
    rw [if_neg (show ¬ 0 ≤ rwc p none by show ¬ (0 : Int32) ≤ -1; decide)]
    unfold f_reckon_28
    rw [if_neg (show ¬ 0 ≤ rwc p none by show ¬ (0 : Int32) ≤ -1; decide)]
    unfold f_reckon_46
    rw [if_neg (by decide)]
    exact fin (9, 0) (o9 0) rfl
  | some a =>
    rw [hR] at fin hun
    have ha70 := (Lfnd_vr rs.2.1 he hR).1.lt hw rs.2.1
    obtain ⟨u, hu, h1, h2, h3, h4⟩ := hr a hR
    have hge : 0 ≤ rwc p (some a) := nI_pos' (by omega)
    have e37 : rd σ' 37 (rwc p (some a)) = some (σ.1 37 (16 * a + p)) := by show rd σ' 37 (nI (16 * a + p)) = _; rw [rd_37 (by omega), b.o (f := 37)]
    have e38 : rd σ' 38 (rwc p (some a)) = some (σ.1 38 (16 * a + p)) := by show rd σ' 38 (nI (16 * a + p)) = _; rw [rd_38 (by omega), b.o (f := 38)]
    have e40 : rd σ' 40 (rwc p (some a)) = some (σ.1 40 (16 * a + p)) := by show rd σ' 40 (nI (16 * a + p)) = _; rw [rd_40 (by omega), b.o (f := 40)]
    have e41 : rd σ' 41 (rwc p (some a)) = some (σ.1 41 (16 * a + p)) := by show rd σ' 41 (nI (16 * a + p)) = _; rw [rd_41 (by omega), b.o (f := 41)]
    have e42 : rd σ' 42 (rwc p (some a)) = some (σ.1 42 (16 * a + p)) := by show rd σ' 42 (nI (16 * a + p)) = _; rw [rd_42 (by omega), b.o (f := 42)]
    rw [if_pos hge, e37, qqx]
    unfold f_reckon_28
    rw [if_pos hge, e38, qqx]
    unfold f_reckon_46
    by_cases c : σ.1 37 (16 * a + p) = 11
    · have hu11 : u = 11 := by rw [h1] at c; exact (nI_eq (b := 11) (by omega) (by decide)).mp c
      obtain ⟨⟨v, hv, hv2⟩, h5⟩ := h4 hu11
      have hvv : (σ.1 40 (16 * a + p)).toNatClampNeg - 12 = v := by rw [hv2, nI_clamp (by omega)]; omega
      have e1 : vUn σ (qVr σ (rI T G σ ar e tr)) p (some a) = if (qVr σ (rI T G σ ar e tr) v).1 < 0 then (if σ.1 41 (16 * a + p) < 0 then (9, 0) else if vSu p (σ.1 41 (16 * a + p)) = true then (σ.1 41 (16 * a + p), σ.1 42 (16 * a + p)) else (9, 0)) else if vSu p (qVr σ (rI T G σ ar e tr) v).1 = true then qVr σ (rI T G σ ar e tr) v else (9, 0) := by
        rw [← hvv]
        exact if_pos c
      obtain ⟨hV1, hV2⟩ := hV v hv
      rw [e1] at fin
      have e44 : rd σ' 44 (nI (3 * (30 * into + e) + v)) = some (qVr σ (rI T G σ ar e tr) v).1 := by rw [rd_44 (by omega), hV1]
      have e45 : rd σ' 45 (nI (3 * (30 * into + e) + v)) = some (qVr σ (rI T G σ ar e tr) v).2 := by rw [rd_45 (by omega), hV2]
      have key : ∀ (un : Int32 × Int32), unOK p un ∨ vSu p un.1 = false → vEv (qiP (rI T G σ ar e tr)) (σ'.1 43 (12 * (30 * into + e) + 1)) (rI T G σ ar e tr).2.2.1 (qHe σ (rI T G σ ar e tr)) (σ.2 50) p (if vSu p un.1 = true then un else (9, 0)) = vEv (qiP (rI T G σ ar e tr)) (σ'.1 43 (12 * (30 * into + e) + 1)) (rI T G σ ar e tr).2.2.1 (qHe σ (rI T G σ ar e tr)) (σ.2 50) p (if (qVr σ (rI T G σ ar e tr) v).1 < 0 then (if σ.1 41 (16 * a + p) < 0 then (9, 0) else if vSu p (σ.1 41 (16 * a + p)) = true then (σ.1 41 (16 * a + p), σ.1 42 (16 * a + p)) else (9, 0)) else if vSu p (qVr σ (rI T G σ ar e tr) v).1 = true then qVr σ (rI T G σ ar e tr) v else (9, 0)) → f_reckon_148 (nI e) (nI p) (nI ar) (nI into) (b2 tr) (rwc p (some a)) un.1 un.2 σ' = some (rkU into e p (vEv (qiP (rI T G σ ar e tr)) (σ'.1 43 (12 * (30 * into + e) + 1)) (rI T G σ ar e tr).2.2.1 (qHe σ (rI T G σ ar e tr)) (σ.2 50) p (vUn σ (qVr σ (rI T G σ ar e tr)) p (some a))) (qIm σ (rI T G σ ar e tr) p) σ') := by
        intro un ho heq
        unfold f_reckon_148 f_reckon_167
        rw [r_suits p (by omega), qqx, b2_i0, e1]
        cases hs : vSu p un.1 with
        | true =>
          rw [hs] at heq ho
          rw [if_pos rfl]
          rw [if_pos rfl] at heq
          exact fin un (ho.resolve_right (by decide)) heq
        | false =>
          rw [hs] at heq
          rw [if_neg (by decide)]
          rw [if_neg (by decide)] at heq
          exact fin (9, un.2) (o9 un.2) ((vEv_9 un.2 0).trans heq)
      rw [if_pos c, e40, qqx, hv2, ix3, nI_add, show (12 : Int32) = nI 12 from rfl, pk_sub (by omega), show 3 * (30 * into + e) + (12 + v) - 12 = 3 * (30 * into + e) + v by omega, e44, qqx]
      unfold f_reckon_119
      rw [e44]
      by_cases c1 : (qVr σ (rI T G σ ar e tr) v).1 < 0
      · rw [if_pos c1, e41, qqx, qqx, qqx, if_pos c1, e42, qqx]
        by_cases c2 : σ.1 41 (16 * a + p) < 0
        · rw [if_pos c2]
          refine key (9, σ.1 42 (16 * a + p)) (Or.inl (o9 _)) ?_
          rw [if_pos (vSu_9 p), if_pos c1, if_pos c2]
          exact vEv_9 _ _
        · rw [if_neg c2, qqx, if_pos c1, qqx]
          refine key (σ.1 41 (16 * a + p), σ.1 42 (16 * a + p)) ?_ ?_
          · cases hs : vSu p (σ.1 41 (16 * a + p)) with
            | false => exact Or.inr rfl
            | true =>
              rw [e1, if_pos c1, if_neg c2, if_pos hs] at hun
              exact Or.inl hun
          · rw [if_pos c1, if_neg c2]
      · rw [if_neg c1, qqx, qqx, if_neg c1, e45, qqx]
        refine key (qVr σ (rI T G σ ar e tr) v) ?_ ?_
        · cases hs : vSu p (qVr σ (rI T G σ ar e tr) v).1 with
          | false => exact Or.inr rfl
          | true =>
            rw [e1, if_neg c1, if_pos hs] at hun
            exact Or.inl hun
        · rw [if_neg c1]
    · rw [if_neg c]
      have e1 : vUn σ (qVr σ (rI T G σ ar e tr)) p (some a) = (σ.1 37 (16 * a + p), σ.1 38 (16 * a + p)) := if_neg c
      rw [e1] at fin hun ⊢
      exact fin (σ.1 37 (16 * a + p), σ.1 38 (16 * a + p)) hun rfl
theorem rkU_W {into e p : Nat} {v : Int32} {im : Bool} {σ' : mS} (b : rW into e σ σ') (hp : p < 12) : rW into e σ (rkU into e p v im σ') := by
  unfold rkU
  by_cases c : p < 5 ∧ into = 0
  · rw [if_pos c]
    have b1 := b.w43 (v := v) (show (12 * (30 * into + e) + p) / 12 = 30 * into + e by omega)
    obtain ⟨c1, c2⟩ := c
    subst c2
    exact b1.w47 (by omega)
  · rw [if_neg c]
    exact b.w43 (by omega)
theorem rkU_43 (into e p : Nat) (v : Int32) (im : Bool) (σ' : mS) (i : Nat) : (rkU into e p v im σ').1 43 i = if i = 12 * (30 * into + e) + p then v else σ'.1 43 i := by
  unfold rkU
  by_cases c : p < 5 ∧ into = 0
  · rw [if_pos c, up_o (by decide), up_s]
  · rw [if_neg c, up_s]
theorem rkU_o (into e p : Nat) (v : Int32) (im : Bool) (σ' : mS) {f : Nat} (h1 : f ≠ 43) (h2 : f ≠ 47) : (rkU into e p v im σ').1 f = σ'.1 f := by
  unfold rkU
  by_cases c : p < 5 ∧ into = 0
  · rw [if_pos c, up_o h2, up_o h1]
  · rw [if_neg c, up_o h1]
theorem rkU_47 (e p : Nat) (v : Int32) (im : Bool) (σ' : mS) (i : Nat) : (rkU 0 e p v im σ').1 47 i = if i = 5 * e + p ∧ p < 5 then b2 im else σ'.1 47 i := by
  unfold rkU
  by_cases c : p < 5
  · rw [if_pos ⟨c, rfl⟩, up_s]
    by_cases d : i = 5 * e + p
    · rw [if_pos d, if_pos ⟨d, c⟩]
    · rw [if_neg d, if_neg (fun z => d z.1), up_o (by decide)]
  · rw [if_neg (fun z => c z.1), if_neg (fun z => c z.2), up_o (by decide)]
def vlW (tr : Bool) (into e k : Nat) (f : Nat → Int32) (g : Nat → Bool) (σ' : mS) : Prop := ∀ q, q < 12 → (q < k ∨ q = 1) → (tr = true → q < 4) → σ'.1 43 (12 * (30 * into + e) + q) = f q ∧ (into = 0 → q < 5 → σ'.1 47 (5 * e + q) = b2 (g q))
theorem vlW_up {tr : Bool} {into e k : Nat} {f : Nat → Int32} {g : Nat → Bool} {σ' : mS} (hk : k < 12) (h : vlW tr into e k f g σ') : vlW tr into e (k + 1) f g (rkU into e k (f k) (g k) σ') := by
  intro q hq hqk htr
  rw [rkU_43]
  by_cases c : q = k
  · subst c
    rw [if_pos rfl]
    refine ⟨rfl, fun h0 h5 => ?_⟩
    subst h0
    rw [rkU_47, if_pos ⟨rfl, h5⟩]
  · rw [if_neg (by omega)]
    obtain ⟨h1, h2⟩ := h q hq (by omega) htr
    refine ⟨h1, fun h0 h5 => ?_⟩
    subst h0
    rw [rkU_47, if_neg (by omega)]
    exact h2 rfl h5
theorem vrW_rk {into e p at0 : Nat} {v : Int32} {im : Bool} {σ' : mS} {f : Nat → qP} (h : vrW σ' at0 3 f) : vrW (rkU into e p v im σ') at0 3 f := by
  intro w hw3
  rw [rkU_o _ _ _ _ _ _ (by decide) (by decide), rkU_o _ _ _ _ _ _ (by decide) (by decide)]
  exact h w hw3
def qiOK (σ : mS) (I : qI) : Prop := (∀ p, p < 15 → ∀ a, I.1 p = some a → rOK σ p a ∧ a < 70 ∧ ¬ σ.1 37 (16 * a + p) = 10) ∧ ∀ f, qiV I = some f → ∀ v, v < 3 → okP (f v)
theorem qiOK.v {I : qI} (h : qiOK σ I) : vOK σ I.1 := fun v hv a ha => ⟨(h.1 (12 + v) (by omega) a ha).1, (h.1 (12 + v) (by omega) a ha).2.1⟩
theorem r_style_22 (hw : Tw T) (rs : RS T G σ) {into ar e : Nat} (har : ar < 3) (hin : into < 3) (he : e < Tn T) (hd : TD T e = true) (tr : Bool) (hq : qiOK σ (rI T G σ ar e tr)) (htop : e ≠ 0 → σ.1 43 (360 * ar + 1) = (rI T G σ ar e tr).2.2.1) : ∀ d m p σ1, p + d = 12 → d < m → rW into e σ σ1 → vrW σ1 (3 * (30 * into + e)) 3 (qVr σ (rI T G σ ar e tr)) → vlW tr into e p (qVl σ (rI T G σ ar e tr)) (qIm σ (rI T G σ ar e tr)) σ1 → ∃ σ2, f_style_22 m (nI e) (nI ar) (nI into) (b2 tr) (nI p) σ1 = some σ2 ∧ rW into e σ σ2 ∧ vrW σ2 (3 * (30 * into + e)) 3 (qVr σ (rI T G σ ar e tr)) ∧ vlW tr into e 12 (qVl σ (rI T G σ ar e tr)) (qIm σ (rI T G σ ar e tr)) σ2 := by
  intro d
  induction d with
  | zero =>
    intro m p σ1 hp hm b hv hl
    obtain ⟨m, rfl⟩ : ∃ m', m = m' + 1 := ⟨m - 1, by omega⟩
    have hp : p = 12 := by omega
    subst hp
    rw [f_style_22, if_pos (by decide)]
    exact ⟨σ1, rfl, b, hv, hl⟩
  | succ d ih =>
    intro m p σ1 hp hm b hv hl
    obtain ⟨m, rfl⟩ : ∃ m', m = m' + 1 := ⟨m - 1, by omega⟩
    have hp12 : p < 12 := by omega
    rw [f_style_22, if_neg (ge12 hp12), iq1 (by omega)]
    have skip : (p = 1 ∨ (tr = true ∧ 4 ≤ p)) → ∃ σ2, f_style_57 (f_style_22 m) (nI e) (nI ar) (nI into) (b2 tr) (nI p) σ1 = some σ2 ∧ rW into e σ σ2 ∧ vrW σ2 (3 * (30 * into + e)) 3 (qVr σ (rI T G σ ar e tr)) ∧ vlW tr into e 12 (qVl σ (rI T G σ ar e tr)) (qIm σ (rI T G σ ar e tr)) σ2 := by
      intro hs
      unfold f_style_57
      rw [nI_1]
      refine ih m (p + 1) σ1 (by omega) (by omega) b hv (fun q hq2 hqk htr => ?_)
      rcases hs with hs | ⟨hs, h4⟩
      · exact hl q hq2 (by omega) htr
      · exact hl q hq2 (by have := htr hs; omega) htr
    have go : p ≠ 1 → ∃ σ2, f_style_46 (f_style_22 m) (nI e) (nI ar) (nI into) (b2 tr) (nI p) σ1 = some σ2 ∧ rW into e σ σ2 ∧ vrW σ2 (3 * (30 * into + e)) 3 (qVr σ (rI T G σ ar e tr)) ∧ vlW tr into e 12 (qVl σ (rI T G σ ar e tr)) (qIm σ (rI T G σ ar e tr)) σ2 := by
      intro hp1
      unfold f_style_46 f_style_57
      rw [r_reckon hw rs b har hin he hd hp12 tr hq.v hq.2 (fun a ha => (hq.1 p (by omega) a ha).1) hv htop, qqx, nI_1]
      have h1 := (hl 1 (by decide) (Or.inr rfl) (fun _ => by decide)).1
      rw [h1, qVl_1]
      exact ih m (p + 1) _ (by omega) (by omega) (rkU_W b hp12) (vrW_rk hv) (vlW_up hp12 hl)
    by_cases c1 : p = 1
    · rw [if_pos c1]; exact skip (Or.inl c1)
    · rw [if_neg c1, b2_i0]
      cases tr with
      | false => rw [if_neg (by decide)]; exact go c1
      | true =>
        rw [if_pos rfl]
        by_cases c4 : 4 ≤ p
        · rw [if_pos (le4 c4 (by omega))]; exact skip (Or.inr ⟨rfl, c4⟩)
        · rw [if_neg (ge4 (by omega))]; exact go c1
theorem r_style (hw : Tw T) (rs : RS T G σ) {into ar e : Nat} (har : ar < 3) (hin : into < 3) (he : e < Tn T) (hd : TD T e = true) (tr : Bool) (hq : qiOK σ (rI T G σ ar e tr)) : ∃ σ2, f_style (nI e) (nI ar) (nI into) (b2 tr) σ = some σ2 ∧ rW into e σ σ2 ∧ vrW σ2 (3 * (30 * into + e)) 3 (qVr σ (rI T G σ ar e tr)) ∧ vlW tr into e 12 (qVl σ (rI T G σ ar e tr)) (qIm σ (rI T G σ ar e tr)) σ2 := by
  obtain ⟨σ1, e1, b1, v1⟩ := r_variables hw rs har hin he tr hq.v hq.2
  unfold f_style
  rw [e1, qqx, show (1 : Int32) = nI 1 from rfl, r_reckon hw rs b1 har hin he hd (by decide) tr hq.v hq.2 (fun a ha => (hq.1 1 (by decide) a ha).1) v1 (fun _ => rfl), qqx, show (0 : Int32) = nI 0 from rfl, vEv_own1 (a' := 0)]
  have h9 := r_style_22 hw rs har hin he hd tr hq (fun _ => rfl) 12 4000 0 _ rfl (by decide) (rkU_W b1 (show 1 < 12 by decide)) (vrW_rk v1) (fun q hq2 hqk htr => by
    have hq1 : q = 1 := by omega
    subst hq1
    rw [rkU_43, if_pos rfl]
    refine ⟨(qVl_1 σ _).symm, fun h0 h5 => ?_⟩
    subst h0
    rw [rkU_47, if_pos ⟨rfl, h5⟩])
  exact h9
end RK
