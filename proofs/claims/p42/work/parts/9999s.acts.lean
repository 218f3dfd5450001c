section ACT
variable {ct cu na : Nat} {n : Nat → Int32} {mm : Nat × Nat × Nat} {hl hl' dr dr' : Bool} {T T' : qqT} {G G' : qqG} {V V0 : lwS} {σ σ' : mS} {v : Int32} {r : Option (Int32 × lwS)} {e : Nat}
theorem p_in (p : P_in T G σ T' G' σ') : (Tn T' = Tn T ∧ Gs G' = Gs G ∧ Gk G' = Gk G ∧ Gr G' = Gr G) ∧ σ'.2 50 = σ.2 50 := by
  refine ⟨?_, u_in p⟩
  obtain ⟨rfl, b, e, q, i, σ2, σ5, tc, -, hT, -⟩ := p
  have h9 := congrArg Prod.fst hT
  exact ⟨h9, rfl, rfl, rfl⟩
theorem p_tk (p : P_tk T G σ T' G' σ') : (Tn T' = Tn T ∧ Gs G' = Gs G ∧ Gk G' = Gk G ∧ Gr G' = Gr G) ∧ σ'.2 50 = σ.2 50 := by
  refine ⟨?_, u_tk p⟩
  obtain ⟨rfl, b, e, q, i, σ2, σ5, tc, -, hT, -⟩ := p
  exact ⟨(congrArg Prod.fst hT).symm, rfl, rfl, rfl⟩
theorem p_sd (p : P_sd T G σ T' G' σ') : (Tn T' = Tn T ∧ Gs G' = Gs G ∧ Gk G' = Gk G ∧ Gr G' = Gr G) ∧ σ'.2 50 = σ.2 50 := by
  refine ⟨?_, u_sd p⟩
  obtain ⟨rfl, e, -, hT, -⟩ := p
  have h9 := congrArg Prod.fst hT
  exact ⟨h9, rfl, rfl, rfl⟩
theorem p_rw {pp : Int32} (p : P_rw T G σ pp T' G' σ') : (Tn T' = Tn T ∧ Gs G' = Gs G ∧ Gk G' = Gk G ∧ Gr G' = Gr G) ∧ σ'.2 50 = σ.2 50 := by
  refine ⟨?_, u_rw p⟩
  obtain ⟨rfl, rfl, -⟩ := p
  exact ⟨rfl, rfl, rfl, rfl⟩
theorem if00 {a X : Int32} (h : (-1 : Int32) ≤ a) : (-1 : Int32) ≤ (if (0 : Int32) = 0 then a else X) := by rw [if_pos rfl]; exact h
theorem ac_puts (h : LWi na T G mm hl V) (hk : V.2.1 < 60000) (x1 x2 x3 : Int32) : AO 1 na T G mm V (f_L_puts x1 x2 x3 V) := by
  unfold f_L_puts
  exact ao_U h (t_put hk h.1 x1 x2 x3) _ (if_pos rfl) (fun _ _ _ _ p => p_in p)
theorem ac_tops (h : LWi na T G mm hl V) (hk : V.2.1 < 60000) (x1 x2 x3 : Int32) : AO 1 na T G mm V (f_L_tops x1 x2 x3 V) := by
  unfold f_L_tops
  exact ao_U h (t_putTop hk h.1 x1 x2 x3) _ (if_pos rfl) (fun _ _ _ _ p => p_in p)
theorem ac_shadows (h : LWi na T G mm hl V) (hk : V.2.1 < 60000) (x1 : Int32) : AO 1 na T G mm V (f_L_shadows x1 V) := by
  unfold f_L_shadows
  exact ao_U h (t_shadow hk h.1 x1) _ (if_pos rfl) (fun _ _ _ _ p => p_sd p)
theorem ac_whens (h : LWi na T G mm hl V) (hk : V.2.1 < 60000) (x1 x2 x3 : Int32) : AO 1 na T G mm V (f_L_whens x1 x2 x3 V) := by
  unfold f_L_whens
  exact ao_U h (t_when hk h.1 x1 x2 x3) _ (if_pos rfl) (fun T' G' σ' g p => by
    obtain ⟨rfl, rfl, -⟩ := p
    exact ⟨⟨rfl, rfl, rfl, rfl⟩, q8_when _ g⟩)
theorem ac_takes (h : LWi na T G mm false V) (hk : V.2.1 < 60000) (x1 : Int32) : AO 1 na T G mm V (f_L_takes x1 V) := by
  obtain ⟨hq, ⟨n, hA, hB⟩, h50⟩ := h
  unfold f_L_takes
  exact ao_R hq hA hB (fun z => z) h50 (t_take hk hq x1) _ (fun a σ' g z => if00 (m9_take hq.j1.1.1 hq.j1.1.2.1 _ g)) (fun _ _ _ p => p_tk p)
theorem ac_declares (hq : LQ mm hl false T G V) (hA : V.2.2 na = some (9, n)) (hB : nB n T G mm hl') (h50 : (0 : Int32) ≤ V.1.2 50) (hk : V.2.1 < 60000) (x1 x2 x3 x4 x5 : Int32) (z : x5 = 0 ∨ x5 = 1) (h10 : x2 ≠ 10 ∧ x2 ≠ 11) (h6 : hl' = false → hl = false ∧ x2 ≠ 6) : AO 1 na T G mm V (f_L_declares x1 x2 x3 x4 x5 V) := by
  unfold f_L_declares
  rw [if_pos z]
  exact ao_R hq hA hB (fun z => (h6 z).1) h50 (t_declare hk hq x1 x2 x3 x4 x5 z h10 h6) _ (fun a σ' g z => if00 (m9_declare _ g)) (fun _ _ _ p => p_rw p)
theorem ac_varies (hq : LQ mm hl false T G V) (hA : V.2.2 na = some (9, n)) (hB : nB n T G mm hl') (h50 : (0 : Int32) ≤ V.1.2 50) (hk : V.2.1 < 60000) (x1 x2 x3 x4 x5 : Int32) (h10 : x2 ≠ 10 ∧ x2 ≠ 11) (h6 : hl' = false → hl = false ∧ x2 ≠ 6) : AO 1 na T G mm V (f_L_varies x1 x2 x3 x4 x5 V) := by
  unfold f_L_varies
  exact ao_R hq hA hB (fun z => (h6 z).1) h50 (t_declareVar hk hq x1 x2 x3 x4 x5 h10 h6) _ (fun a σ' g z => if00 (m9_declareVar _ g)) (fun _ _ _ p => p_rw p)
theorem ac_make (h : LWi na T G mm hl V) (hk : V.2.1 < 60000) (he : e < 8) : AO 1 na T G mm V (f_L_make na (nI e) V) := by
  obtain ⟨hq, ⟨n, hA, hB⟩, h50⟩ := id h
  have l0 : ldA V na (0 : Int32) = some (nI (Tn T)) := (stV_ld (i := 0) hA (by decide)).trans (congrArg some hB.1.1)
  unfold f_L_make
  rw [l0, qqx]
  by_cases c : Tn T = 12
  · rw [if_pos (show nI (Tn T) = 12 by rw [c]; rfl)]; exact ao_9 h
  · have k : Tn T < 12 := by have := hB.1.2; omega
    have s0 : stA V na (0 : Int32) (nI (Tn T + 1)) = some (stV V na (upd n 0 (nI (Tn T + 1)))) := stV_st (i := 0) hA (by decide) _
    rw [if_neg (show ¬ nI (Tn T) = 12 from fun z => c ((nI_eqE (b := 12) (by omega) (by decide)).mp z)), qqx, nI_1, s0, qqx]
    obtain ⟨σ', b, e1, l, w⟩ := e5_make (V := stV V na (upd n 0 (nI (Tn T + 1)))) hk hq (by omega) he
    rw [e1, qqx]
    exact ⟨_, _, rfl, Nat.le_refl _, fun x hx => stV_o hx, Tnw T b, G, hl, ⟨l, ⟨_, stV_at, hB.u0 rfl k⟩, by rw [w]; exact h50⟩, Or.inl (Or.inl (nI_gm (by omega)))⟩
theorem a231 (hA : V.2.2 na = some (9, n)) (y0 : Int32) : ∃ w, f_L_act_231 na y0 V = some (y0, stV V na (upd n 8 w)) := by
  have l8 : ldA V na (8 : Int32) = some (n 8) := stV_ld (i := 8) hA (by decide)
  have s8 : ∀ w, stA V na (8 : Int32) w = some (stV V na (upd n 8 w)) := fun w => stV_st (i := 8) hA (by decide) w
  unfold f_L_act_231 f_L_act_248
  rw [l8, qqx]
  by_cases c : y0 = 0
  · rw [if_pos c, s8, qqx]; exact ⟨_, rfl⟩
  · rw [if_neg c, s8, qqx]; exact ⟨_, rfl⟩
theorem AO.s8 (h : AO ct na T G mm V r) : AO ct na T G mm V (r.bind fun v => f_L_act_231 na v.1 v.2) := by
  obtain ⟨v, V', rfl, c, fr, T', G', hl', ⟨lq, ⟨n, hA, hB⟩, h50⟩, k⟩ := h
  obtain ⟨w, e⟩ := a231 hA v
  exact ⟨v, stV V' na (upd n 8 w), e, c, fun x hx => (stV_o hx).trans (fr x hx), T', G', hl', ⟨lq, ⟨_, stV_at, hB.u8 w⟩, h50⟩, k⟩
/-- a refused call's number -/
def fS (r : Int32 × Int32) : Int32 := if r.1 = 0 then r.2 else if r.1 = 1 then (-3) else if r.1 = 2 then (-2) else (-4)
def fR (r : Int32 × Int32) : Int32 := if r.1 = 0 then r.2 else if r.1 = 1 then (-2) else (-4)
theorem fS_n {y a : Int32} (hy : y ≠ 0) : fS (y, a) < 0 := by
  unfold fS
  rw [if_neg hy]
  by_cases h1 : (y, a).1 = 1
  · rw [if_pos h1]; decide
  · rw [if_neg h1]
    by_cases h2 : (y, a).1 = 2
    · rw [if_pos h2]; decide
    · rw [if_neg h2]; decide
theorem fR_n {y a : Int32} (hy : y ≠ 0) : fR (y, a) < 0 := by
  unfold fR
  rw [if_neg hy]
  by_cases h1 : (y, a).1 = 1
  · rw [if_pos h1]; decide
  · rw [if_neg h1]; decide
theorem a415 (hA : V.2.2 na = some (9, n)) (y0 : Int32) : f_L_act_415 na y0 V = some (y0, stV V na (upd n 2 (if 0 ≤ y0 then n 2 + 1 else n 2 + 0))) := by
  have l8 : ldA V na (2 : Int32) = some (n 2) := stV_ld (i := 2) hA (by decide)
  have s8 : ∀ w, stA V na (2 : Int32) w = some (stV V na (upd n 2 w)) := fun w => stV_st (i := 2) hA (by decide) w
  unfold f_L_act_415 f_L_act_431
  rw [l8, qqx]
  by_cases c : 0 ≤ y0
  · rw [if_pos c, if_pos c, s8, qqx]
  · rw [if_neg c, if_neg c, s8, qqx]
theorem add_z (a : Int32) : a + 0 = a := Int32.add_zero a
theorem a415n (h : LWi na T G mm hl V) {y0 : Int32} (hy : y0 < 0) : ∃ V', f_L_act_415 na y0 V = some (y0, V') ∧ V'.1 = V.1 ∧ V'.2.1 = V.2.1 ∧ (∀ x, x ≠ na → V'.2.2 x = V.2.2 x) ∧ LWi na T G mm hl V' := by
  obtain ⟨hq, ⟨n, hA, hB⟩, h50⟩ := h
  refine ⟨_, a415 hA y0, rfl, rfl, fun x hx => stV_o hx, hq, ⟨_, stV_at, ?_⟩, h50⟩
  rw [if_neg (Int32.not_le.mpr hy), add_z, upd_id]
  exact hB
theorem ac_sheets (h : LWi na T G mm hl V) (hk : V.2.1 < 60000) (k6 : Gk G < 6) (x1 x2 x3 : Int32) : AO 1 na T G mm V ((f_L_sheets x1 x2 x3 V).bind fun v2 => f_L_act_415 na v2.1 v2.2) := by
  obtain ⟨hq, ⟨n, hA, hB⟩, h50⟩ := id h
  obtain ⟨a, σ', e1, e2, s⟩ := w_R (t_sheet hk hq x1 x2 x3) fS
  have e2 : f_L_sheets x1 x2 x3 V = some (fS (σ'.2 81, a), (σ', V.2.1 + 1, V.2.2)) := e2
  rw [e2, qqx]
  rcases s with ⟨y, hy, e3, l⟩ | ⟨z, T', G', p, l⟩
  · have h81 : σ'.2 81 = y := by rw [e3]; exact sf_s _ _ _
    have ng : fS (σ'.2 81, a) < 0 := by rw [h81]; exact fS_n hy
    have li : LWi na T G mm hl (σ', V.2.1 + 1, V.2.2) := ⟨l, ⟨n, hA, hB⟩, by
      show (0 : Int32) ≤ σ'.2 50
      rw [e3, sf50]
      exact h50⟩
    obtain ⟨V', g1, g2, g3, g4, g5⟩ := a415n li ng
    refine ⟨_, V', g1, by rw [g3]; exact Nat.le_refl _, fun x hx => g4 x hx, T, G, hl, g5, Or.inr ⟨rfl, rfl, ?_⟩⟩
    rw [g2]
    show scE V.1 σ'
    rw [e3]
    exact scE.of (scR_sf V.1 y)
  · have w := u_sh p
    obtain ⟨rfl, hh, σw, rfl, -⟩ := p
    have n31 : σ'.2 31 = nI (Gk G + 1) := l.j1.1.2.2.1
    have ea : a = nI (Gk G) := by
      rcases aF_sheet _ e1 with q | q
      · exact absurd z q
      · have q : a = σ'.2 31 - 1 := q
        rw [q, n31, nI_pred]
    have ev : fS (σ'.2 81, a) = nI (Gk G) := by unfold fS; rw [z, if_pos rfl]; exact ea
    rw [ev]
    have p0 : (0 : Int32) ≤ nI (Gk G) := nI_pos' (by omega)
    refine ⟨_, _, a415 (V := (σ', V.2.1 + 1, V.2.2)) hA _, Nat.le_refl _, fun x hx => stV_o hx, T', gSh G hh, hl, ⟨l, ⟨_, stV_at, ?_⟩, ?_⟩, Or.inl (Or.inl (nI_gm (by omega)))⟩
    · rw [if_pos p0, hB.2.2.1.1, nI_1]
      exact hB.u2 ⟨rfl, rfl, rfl⟩ k6
    · show (0 : Int32) ≤ σ'.2 50
      rw [w]
      exact h50
end ACT
