def LQ (mm : Nat × Nat × Nat) (hl dr : Bool) (T : qqT) (G : qqG) (V : lwS) : Prop := (∃ S L A ex K v nw, JW V.2.1 T G L A ex K v nw S V.1) ∧ Q V.2.1 mm hl dr T G V.1
theorem LQ.j1 {mm : Nat × Nat × Nat} {hl dr : Bool} {T : qqT} {G : qqG} {V : lwS} (h : LQ mm hl dr T G V) : J1 T G V.1 := by
  obtain ⟨⟨S, L, A, ex, K, v, nw, w⟩, -⟩ := h
  exact w.j1
theorem Q_w {mm : Nat × Nat × Nat} {hl dr hl' dr' : Bool} {T : qqT} {G : qqG} {σ : mS} {k : Nat} (q : Q k mm hl dr T G σ) (h1 : hl' = false → hl = false) (h2 : dr' = false → dr = false) : Q k mm hl' dr' T G σ := ⟨⟨q.1.1, q.1.2.1, fun z => q.1.2.2 (h2 z)⟩, q.2.1, q.2.2.1, q.2.2.2.1, q.2.2.2.2.1, fun z => q.2.2.2.2.2 (h1 z)⟩
theorem LQ.w {mm : Nat × Nat × Nat} {hl dr hl' dr' : Bool} {T : qqT} {G : qqG} {V : lwS} (h : LQ mm hl dr T G V) (h1 : hl' = false → hl = false) (h2 : dr' = false → dr = false) : LQ mm hl' dr' T G V := ⟨h.1, Q_w h.2 h1 h2⟩
section LS
variable {mm mm' : Nat × Nat × Nat} {hl dr hl' dr' : Bool} {T : qqT} {G : qqG} {V : lwS} {P : qqT → qqG → mS → Prop} {Lc : List Nat} {vl : Int32 → Int64}
theorem oR_LQ {g : mS → Option (Int32 × mS)} {F : cS → Option ((Nat ⊕ Int32) × cS)} (hk : V.2.1 < 60000) (h : LQ mm hl dr T G V)
    (sq : ∀ {S L A ex K v nw}, JW V.2.1 T G L A ex K v nw S V.1 → sJR Lc vl (JP (pf T G V.1 P) (V.2.1 + 1)) (F S) (g V.1))
    (hQ : ∀ T' G' σ', J1 T G V.1 → J1 T' G' σ' → Q V.2.1 mm hl dr T G V.1 → P T' G' σ' → Q (V.2.1 + 1) mm' hl' dr' T' G' σ') :
    ∃ a σ', g V.1 = some (a, σ') ∧ oR g V = some ((σ'.2 81, a), (σ', V.2.1 + 1, V.2.2)) ∧ ((∃ y, y ≠ 0 ∧ σ' = sf V.1 81 y ∧ LQ mm hl dr T G (σ', V.2.1 + 1, V.2.2)) ∨ (σ'.2 81 = 0 ∧ ∃ T' G', P T' G' σ' ∧ LQ mm' hl' dr' T' G' (σ', V.2.1 + 1, V.2.2))) := by
  obtain ⟨⟨S, L, A, ex, K, v, nw, w⟩, q⟩ := h
  obtain ⟨q1, r, e1, e2, -, hJ⟩ := sq w
  obtain ⟨T', G', L', A', ex', K', v', nw', w', p⟩ := hJ q1.2.2 (Nat.le_refl _)
  refine ⟨r.1, r.2, e2, ?_, ?_⟩
  · unfold oR
    rw [if_pos hk, e2]
    rfl
  · rcases p with ⟨rfl, rfl, y, hy, e⟩ | ⟨p0, p⟩
    · refine Or.inl ⟨y, hy, e, ⟨_, L', A', ex', K', v', nw', w'⟩, ?_⟩
      rw [e]
      exact Q_sc w.j1 q (scE.of (scR_sf V.1 y))
    · exact Or.inr ⟨p0, T', G', p, ⟨_, L', A', ex', K', v', nw', w'⟩, hQ T' G' _ w.j1 w'.j1 q p⟩
theorem oU_LQ {U : Type} {g : mS → Option mS} {F : cS → Option ((Nat ⊕ U) × cS)} (hk : V.2.1 < 60000) (h : LQ mm hl dr T G V)
    (sq : ∀ {S L A ex K v nw}, JW V.2.1 T G L A ex K v nw S V.1 → sJU Lc (JP (pf T G V.1 P) (V.2.1 + 1)) (F S) (g V.1))
    (hQ : ∀ T' G' σ', J1 T G V.1 → J1 T' G' σ' → Q V.2.1 mm hl dr T G V.1 → P T' G' σ' → Q (V.2.1 + 1) mm' hl' dr' T' G' σ') :
    ∃ σ', g V.1 = some σ' ∧ oU g V = some ((σ'.2 81, 0), (σ', V.2.1 + 1, V.2.2)) ∧ ((∃ y, y ≠ 0 ∧ σ' = sf V.1 81 y ∧ LQ mm hl dr T G (σ', V.2.1 + 1, V.2.2)) ∨ (σ'.2 81 = 0 ∧ ∃ T' G', P T' G' σ' ∧ LQ mm' hl' dr' T' G' (σ', V.2.1 + 1, V.2.2))) := by
  obtain ⟨⟨S, L, A, ex, K, v, nw, w⟩, q⟩ := h
  obtain ⟨q1, r, e1, e2, -, hJ⟩ := sq w
  obtain ⟨T', G', L', A', ex', K', v', nw', w', p⟩ := hJ q1.2.2 (Nat.le_refl _)
  refine ⟨r, e2, ?_, ?_⟩
  · unfold oU
    rw [if_pos hk, e2]
    rfl
  · rcases p with ⟨rfl, rfl, y, hy, e⟩ | ⟨p0, p⟩
    · refine Or.inl ⟨y, hy, e, ⟨_, L', A', ex', K', v', nw', w'⟩, ?_⟩
      rw [e]
      exact Q_sc w.j1 q (scE.of (scR_sf V.1 y))
    · exact Or.inr ⟨p0, T', G', p, ⟨_, L', A', ex', K', v', nw', w'⟩, hQ T' G' _ w.j1 w'.j1 q p⟩
/-- what a call leaves: refused, and nothing is changed; or P, and the new bounds -/
def stR (mm : Nat × Nat × Nat) (hl dr : Bool) (mm' : Nat × Nat × Nat) (hl' dr' : Bool) (T : qqT) (G : qqG) (P : qqT → qqG → mS → Prop) (V : lwS) (σ' : mS) : Prop := (∃ y, y ≠ 0 ∧ σ' = sf V.1 81 y ∧ LQ mm hl dr T G (σ', V.2.1 + 1, V.2.2)) ∨ (σ'.2 81 = 0 ∧ ∃ T' G', P T' G' σ' ∧ LQ mm' hl' dr' T' G' (σ', V.2.1 + 1, V.2.2))
def stP (g : mS → Option (Int32 × mS)) (mm : Nat × Nat × Nat) (hl dr : Bool) (mm' : Nat × Nat × Nat) (hl' dr' : Bool) (T : qqT) (G : qqG) (P : qqT → qqG → mS → Prop) (V : lwS) : Prop := ∃ a σ', g V.1 = some (a, σ') ∧ oR g V = some ((σ'.2 81, a), (σ', V.2.1 + 1, V.2.2)) ∧ stR mm hl dr mm' hl' dr' T G P V σ'
def stU (g : mS → Option mS) (mm : Nat × Nat × Nat) (hl dr : Bool) (mm' : Nat × Nat × Nat) (hl' dr' : Bool) (T : qqT) (G : qqG) (P : qqT → qqG → mS → Prop) (V : lwS) : Prop := ∃ σ', g V.1 = some σ' ∧ oU g V = some ((σ'.2 81, 0), (σ', V.2.1 + 1, V.2.2)) ∧ stR mm hl dr mm' hl' dr' T G P V σ'
theorem q_sc {k : Nat} {σ : mS} : ∀ T' G' σ', J1 T G σ → J1 T' G' σ' → Q k mm hl dr T G σ → P_sc T G σ T' G' σ' → Q (k + 1) mm hl dr T' G' σ' := fun T' G' σ' J _ q p => by
  obtain ⟨rfl, rfl, s⟩ := p
  exact Q_sc J q s
theorem q_rd {k : Nat} {σ : mS} (hk : k < 60000) : ∀ T' G' σ', J1 T G σ → J1 T' G' σ' → Q k mm hl dr T G σ → P_rd T G σ T' G' σ' → Q (k + 1) mm hl dr T' G' σ' := fun T' G' σ' J _ q p => by
  obtain ⟨rfl, rfl, e⟩ := p
  exact (Q_rd J q hk e).1
theorem t_shownParent (hk : V.2.1 < 60000) (h : LQ mm hl dr T G V) (a1 : Int32) : stP (f_shownParent a1) mm hl dr mm hl dr T G (P_sc T G V.1) V := oR_LQ (F := f_X11_shownParent 1 a1) hk h (fun w => sq_shownParent w a1) q_sc
theorem t_isIn (hk : V.2.1 < 60000) (h : LQ mm hl dr T G V) (a1 : Int32) : stP (f_isIn a1) mm hl dr mm hl dr T G (P_sc T G V.1) V := oR_LQ (F := f_X11_isIn 1 a1) hk h (fun w => sq_isIn w a1) q_sc
theorem t_weight (hk : V.2.1 < 60000) (h : LQ mm hl dr T G V) (a1 : Int32) : stP (f_weight a1) mm hl dr mm hl dr T G (P_sc T G V.1) V := oR_LQ (F := f_X11_weight 1 a1) hk h (fun w => sq_weight w a1) q_sc
theorem t_allThat (hk : V.2.1 < 60000) (h : LQ mm hl dr T G V) (a1 a2 : Int32) : stP (f_allThat a1 a2) mm hl dr mm hl dr T G (P_sc T G V.1) V := oR_LQ (F := f_X11_allThat 1 a1 a2) hk h (fun w => sq_allThat hk w a1 a2) q_sc
theorem t_valueAnew (hk : V.2.1 < 60000) (h : LQ mm hl dr T G V) (a1 a2 : Int32) : stP (f_valueAnew a1 a2) mm hl dr mm hl dr T G (P_sc T G V.1) V := oR_LQ (F := f_X11_valueAnew 1 a1 a2) hk h (fun w => sq_valueAnew hk w a1 a2) q_sc
theorem t_value (hk : V.2.1 < 60000) (h : LQ mm hl dr T G V) (a1 a2 : Int32) : stP (f_value a1 a2) mm hl dr mm hl dr T G (P_rd T G V.1) V := oR_LQ (F := f_X11_value 1 a1 a2) hk h (fun w => sq_value hk w a1 a2) (q_rd hk)
theorem t_size (hk : V.2.1 < 60000) (h : LQ mm hl dr T G V) (a1 : Int32) : stP (f_size a1) mm hl dr mm hl dr T G (P_rd T G V.1) V := oR_LQ (F := f_X11_size 1 a1) hk h (fun w => sq_size hk w a1) (q_rd hk)
theorem t_seen (hk : V.2.1 < 60000) (h : LQ mm hl dr T G V) (a1 a2 : Int32) : stP (f_seen a1 a2) mm hl dr mm hl dr T G (P_rd T G V.1) V := oR_LQ (F := f_X11_seen 1 a1 a2) hk h (fun w => sq_seen hk w a1 a2) (q_rd hk)
theorem t_why (hk : V.2.1 < 60000) (h : LQ mm hl dr T G V) (a1 a2 a3 : Int32) : stP (f_why a1 a2 a3) mm hl dr mm hl dr T G (P_rd T G V.1) V := oR_LQ (F := f_X11_why 1 a1 a2 a3) hk h (fun w => sq_why hk w a1 a2 a3) (q_rd hk)
theorem t_setClass (hk : V.2.1 < 60000) (h : LQ mm hl dr T G V) (a1 a2 a3 : Int32) (z : a3 = 0 ∨ a3 = 1) : stP (f_setClass a1 a2 a3) mm hl dr mm hl dr T G (P_cl T G V.1) V := oR_LQ (F := f_X11_setClass 1 a1 a2 a3) hk h (fun w => sq_setClass hk w a1 a2 a3 z) (fun T' G' σ' J J' q p => Q_cl J J' q p)
theorem t_setPart (hk : V.2.1 < 60000) (h : LQ mm hl dr T G V) (a1 a2 : Int32) : stP (f_setPart a1 a2) mm hl dr mm hl dr T G (P_pt T G V.1) V := oR_LQ (F := f_X11_setPart 1 a1 a2) hk h (fun w => sq_setPart hk w a1 a2) (fun T' G' σ' J J' q p => Q_pt J J' q p)
theorem t_setAttribute (hk : V.2.1 < 60000) (h : LQ mm hl dr T G V) (a1 a2 a3 : Int32) : stP (f_setAttribute a1 a2 a3) mm hl dr mm hl dr T G (P_at T G V.1) V := oR_LQ (F := f_X11_setAttribute 1 a1 a2 a3) hk h (fun w => sq_setAttribute hk w a1 a2 a3) (fun T' G' σ' J J' q p => Q_at J J' q p)
theorem t_setWidth (hk : V.2.1 < 60000) (h : LQ mm hl dr T G V) (a1 : Int32) : stP (f_setWidth a1) mm hl dr mm hl dr T G (P_al T G V.1) V := oR_LQ (F := f_X11_setWidth 1 a1) hk h (fun w => sq_setWidth w a1) (fun T' G' σ' J J' q p => Q_al J J' q p)
theorem t_turn (hk : V.2.1 < 60000) (h : LQ mm hl dr T G V) (a1 a2 : Int32) (z : a2 = 0 ∨ a2 = 1) : stP (f_turn a1 a2) mm hl dr mm hl dr T G (P_al T G V.1) V := oR_LQ (F := f_X11_turn 1 a1 a2) hk h (fun w => sq_turn w a1 a2 z) (fun T' G' σ' J J' q p => Q_al J J' q p)
theorem t_when (hk : V.2.1 < 60000) (h : LQ mm hl dr T G V) (a1 a2 a3 : Int32) : stU (f_when a1 a2 a3) mm hl dr mm hl dr T G (P_al T G V.1) V := oU_LQ (F := f_X11_when 1 a1 a2 a3) hk h (fun w => sq_when w a1 a2 a3) (fun T' G' σ' J J' q p => Q_al J J' q p)
theorem t_declare (hk : V.2.1 < 60000) (h : LQ mm hl dr T G V) (a1 a2 a3 a4 a5 : Int32) (z : a5 = 0 ∨ a5 = 1) (h10 : a2 ≠ 10 ∧ a2 ≠ 11) (h6 : hl' = false → hl = false ∧ a2 ≠ 6) : stP (f_declare a1 a2 a3 a4 a5) mm hl dr mm hl' dr T G (P_rw T G V.1 a2) V := oR_LQ (F := f_X11_declare 1 a1 a2 a3 a4 a5) hk h (fun w => sq_declare w a1 a2 a3 a4 a5 z) (fun T' G' σ' J J' q p => Q_rw J J' q p h10 h6)
theorem t_declareVar (hk : V.2.1 < 60000) (h : LQ mm hl dr T G V) (a1 a2 a3 a4 a5 : Int32) (h10 : a2 ≠ 10 ∧ a2 ≠ 11) (h6 : hl' = false → hl = false ∧ a2 ≠ 6) : stP (f_declareVar a1 a2 a3 a4 a5 0) mm hl dr mm hl' dr T G (P_rw T G V.1 a2) V := oR_LQ (F := f_X11_declareVar 1 a1 a2 a3 a4 a5 0) hk h (fun w => sq_declareVar w a1 a2 a3 a4 a5 0 (Or.inl rfl)) (fun T' G' σ' J J' q p => Q_rw J J' q p h10 h6)
theorem t_sheet (hk : V.2.1 < 60000) (h : LQ mm hl dr T G V) (a1 a2 a3 : Int32) : stP (f_sheet a1 a2 a3) mm hl dr mm hl dr T G (P_sh T G V.1) V := oR_LQ (F := f_X11_sheet 1 a1 a2 a3) hk h (fun w => sq_sheet w a1 a2 a3) (fun T' G' σ' J J' q p => Q_sh J J' q p)
theorem t_rule (hk : V.2.1 < 60000) (h : LQ mm hl dr T G V) (a1 a2 : Int32) : stP (f_rule a1 a2) mm hl dr mm hl dr T G (P_ru T G V.1) V := oR_LQ (F := f_X11_rule 1 a1 a2) hk h (fun w => sq_rule w a1 a2) (fun T' G' σ' J J' q p => Q_ru J J' q p)
theorem t_join (hk : V.2.1 < 60000) (h : LQ mm hl dr T G V) (a1 : Int32) : stP (f_join a1) mm hl dr mm hl dr T G (P_jn T G V.1) V := oR_LQ (F := f_X11_join 1 a1) hk h (fun w => sq_join w a1) (fun T' G' σ' J J' q p => Q_jn J q p)
theorem t_select (hk : V.2.1 < 60000) (h : LQ mm hl dr T G V) : stP f_select mm hl dr mm hl false T G (P_se T G V.1) V := oR_LQ (F := f_X11_select 1) hk h (fun w => sq_select w) (fun T' G' σ' J J' q p => Q_se J q p)
theorem t_make (hk : V.2.1 < 60000) (h : LQ mm hl dr T G V) (a1 : Int32) : stP (f_make a1) mm hl dr mm hl dr T G (P_mk T G V.1) V := oR_LQ (F := f_X11_make 1 a1) hk h (fun w => sq_make w a1) (fun T' G' σ' J J' q p => Q_mk J J' q p)
theorem t_shadow (hk : V.2.1 < 60000) (h : LQ mm hl dr T G V) (a1 : Int32) : stU (f_shadow a1) mm hl dr mm hl dr T G (P_sd T G V.1) V := oU_LQ (F := f_X11_shadow 1 a1) hk h (fun w => sq_shadow hk w a1) (fun T' G' σ' J J' q p => Q_sd J J' q p)
theorem t_put (hk : V.2.1 < 60000) (h : LQ mm hl dr T G V) (a1 a2 a3 : Int32) : stU (f_put a1 a2 a3) mm hl dr mm hl dr T G (P_in T G V.1) V := oU_LQ (F := f_X11_put 1 a1 a2 a3) hk h (fun w => sq_put hk w a1 a2 a3) (fun T' G' σ' J J' q p => Q_in J J' q p)
theorem t_putTop (hk : V.2.1 < 60000) (h : LQ mm hl dr T G V) (a1 a2 a3 : Int32) : stU (f_putTop a1 a2 a3) mm hl dr mm hl dr T G (P_in T G V.1) V := oU_LQ (F := f_X11_putTop 1 a1 a2 a3) hk h (fun w => sq_putTop hk w a1 a2 a3) (fun T' G' σ' J J' q p => Q_in J J' q p)
end LS
theorem t_test {mm : Nat × Nat × Nat} {hl dr' : Bool} {T : qqT} {G : qqG} {V : lwS} (hk : V.2.1 < 60000) (h : LQ mm hl false T G V) (a1 a2 a3 : Int32) (hd : dr' = false → a1 ≠ 8 ∧ a1 ≠ 9) : stP (f_test a1 a2 a3) mm hl false mm hl dr' T G (P_ts T G V.1 a1) V := oR_LQ (F := f_X11_test 1 a1 a2 a3) hk h (fun w => sq_test w a1 a2 a3) (fun T' G' σ' J J' q p => Q_ts J q p hd)
theorem t_take {mm : Nat × Nat × Nat} {dr : Bool} {T : qqT} {G : qqG} {V : lwS} (hk : V.2.1 < 60000) (h : LQ mm false dr T G V) (a1 : Int32) : stP (f_take a1) mm false dr mm false dr T G (P_tk T G V.1) V := oR_LQ (F := f_X11_take 1 a1) hk h (fun w => sq_take hk w a1) (fun T' G' σ' J J' q p => Q_tk J J' q p)
