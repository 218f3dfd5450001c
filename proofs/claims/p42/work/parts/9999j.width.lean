def q8 (a : Int32) (o : Option mS) : Prop := ∀ s, o = some s → s.2 50 = a
def q9 (a : Int32) (o : Option (Int32 × mS)) : Prop := ∀ r, o = some r → r.2.2 50 = a
theorem q8.b {α : Type} {a : Int32} {x : Option α} {f : α → Option mS} (h : ∀ v, x = some v → q8 a (f v)) : q8 a (x.bind f) := fun r e => by
  obtain ⟨v, hv, e⟩ := ob e
  exact h v hv r e
theorem q9.b {α : Type} {a : Int32} {x : Option α} {f : α → Option (Int32 × mS)} (h : ∀ v, x = some v → q9 a (f v)) : q9 a (x.bind f) := fun r e => by
  obtain ⟨v, hv, e⟩ := ob e
  exact h v hv r e
theorem q8.i {a : Int32} {c : Prop} [Decidable c] {x y : Option mS} (h : q8 a x) (k : q8 a y) : q8 a (if c then x else y) := by
  by_cases hc : c
  · rw [if_pos hc]; exact h
  · rw [if_neg hc]; exact k
theorem q9.i {a : Int32} {c : Prop} [Decidable c] {x y : Option (Int32 × mS)} (h : q9 a x) (k : q9 a y) : q9 a (if c then x else y) := by
  by_cases hc : c
  · rw [if_pos hc]; exact h
  · rw [if_neg hc]; exact k
theorem q8.s {a : Int32} {σ : mS} (h : σ.2 50 = a) : q8 a (some σ) := fun r e => by cases e; exact h
theorem q9.s {a v : Int32} {σ : mS} (h : σ.2 50 = a) : q9 a (some (v, σ)) := fun r e => by cases e; exact h
theorem q9.z {a v : Int32} {σ : mS} (h : σ.2 50 = a) : q9 a (rzw v σ) := by
  unfold rzw
  exact q9.i (q9.s h) (fun r e => by cases e)
theorem q8.n {a : Int32} : q8 a none := fun r e => by cases e
theorem q8_wr {a : Int32} {σ : mS} (h : σ.2 50 = a) {f : Nat} {i v : Int32} : q8 a (wr σ f i v) := by
  unfold wr
  exact q8.i q8.n (q8.s h)
theorem q8_mark {a : Int32} {σ : mS} (h : σ.2 50 = a) {x : Int32} : q8 a (f_mark x σ) := by
  unfold f_mark
  exact q8.b fun v _ => q8.s ((sf_o (by decide)).trans h)
theorem q8_markAll {a : Int32} {σ : mS} (h : σ.2 50 = a) : q8 a (f_markAll σ) := by
  unfold f_markAll
  exact q8.b fun v _ => q8.s ((sf_o (by decide)).trans h)
theorem q8_84 {a : Int32} {x4 x5 : Int32} : ∀ (n : Nat) (x6 : Int32) (σ : mS), σ.2 50 = a → q8 a (f_markTest_84 n x4 x5 x6 σ) := by
  intro n
  induction n with
  | zero => intro x6 σ h; exact q8.n
  | succ n ih =>
    intro x6 σ h
    have g : ∀ y, q8 a (f_markTest_171 (f_markTest_84 n) x4 x5 x6 y σ) := fun y => q8.b fun v hv => ih _ v (q8_mark h v hv)
    have g2 : ∀ x7 y, q8 a (f_markTest_134 (f_markTest_84 n) x4 x5 x6 x7 y σ) := fun x7 y => q8.i (g _) (q8.i (g _) (q8.i (g _) (q8.i (g _) (g _))))
    rw [f_markTest_84]
    exact q8.i (q8.s h) (q8.i (q8.s h) (q8.b fun v _ => q8.i (g2 _ _) (q8.i (g2 _ _) (q8.b fun v2 _ => q8.i (g2 _ _) (g2 _ _)))))
theorem q8_8 {a : Int32} {x1 x2 : Int32} : ∀ (n : Nat) (x3 x4 x5 : Int32) (σ : mS), σ.2 50 = a → q8 a (f_markTest_8 n x1 x2 x3 x4 x5 σ) := by
  intro n
  induction n with
  | zero => intro x3 x4 x5 σ h; exact q8.n
  | succ n ih =>
    intro x3 x4 x5 σ h
    have g : ∀ y, q8 a (f_markTest_71 x1 x4 y σ) := fun y => q8.b fun v hv => q8.b fun t _ => q8_84 _ _ v (q8_mark h v hv)
    rw [f_markTest_8]
    exact q8.i (q8.i (g _) (g _)) (q8.b fun v1 _ => q8.b fun v2 _ => q8.b fun v3 _ => q8.b fun v4 _ => ih _ _ _ σ h)
theorem q8_markTest {a : Int32} {σ : mS} (h : σ.2 50 = a) {x y : Int32} : q8 a (f_markTest x y σ) := q8_8 _ _ _ _ σ h
theorem q8_b7 {a : Int32} {x1 x2 : Int32} : ∀ (n : Nat) (x3 : Int32) (σ : mS), σ.2 50 = a → q8 a (f_markBelow_7 n x1 x2 x3 σ) := by
  intro n
  induction n with
  | zero => intro x3 σ h; exact q8.n
  | succ n ih =>
    intro x3 σ h
    have g : ∀ y z, q8 a (f_markBelow_45 (f_markBelow_7 n) x1 x2 x3 y z σ) := fun y z => ih _ _ ((sf_o (by decide)).trans h)
    rw [f_markBelow_7]
    exact q8.i (q8.s h) (q8.b fun v1 _ => q8.i (g _ _) (q8.b fun v2 _ => q8.i (g _ _) (g _ _)))
theorem q8_below {a : Int32} {σ : mS} (h : σ.2 50 = a) {x : Int32} : q8 a (f_markBelow x σ) := q8.b fun v _ => q8_b7 _ _ σ h
theorem q8_h19 {a : Int32} {σ : mS} (h : σ.2 50 = a) {x : Int32} : q8 a (f_markHosts_19 x σ) := q8.i (q8.s h) (q8.b fun v hv => q8.s (q8_below h v hv))
theorem q8_hosts {a : Int32} {σ : mS} (h : σ.2 50 = a) {x y : Int32} : q8 a (f_markHosts x y σ) := q8.i (q8_h19 h) (q8.b fun v _ => q8.i (q8.b fun w hw => q8_h19 (q8_below h w hw)) (q8_h19 h))
theorem q8_with {a : Int32} {σ : mS} (h : σ.2 50 = a) {x : Int32} : q8 a (f_markWith x σ) := q8.b fun v hv => q8.b fun w hw => q8.s (q8_below (q8_mark h v hv) w hw)
theorem q8_p39 {a : Int32} {σ : mS} (h : σ.2 50 = a) {x y z : Int32} : q8 a (f_markPlace_39 x y z σ) := q8.b fun v hv => q8.i (q8.s (q8_hosts h v hv)) (q8.b fun w hw => q8.s (q8_markAll (q8_hosts h v hv) w hw))
theorem q8_p9 {a : Int32} {x2 x3 x4 : Int32} : ∀ (n : Nat) (x5 : Int32) (σ : mS), σ.2 50 = a → q8 a (f_markPlace_9 n x2 x3 x4 x5 σ) := by
  intro n
  induction n with
  | zero => intro x5 σ h; exact q8.n
  | succ n ih =>
    intro x5 σ h
    rw [f_markPlace_9]
    exact q8.i (q8_p39 h) (q8.b fun v1 _ => q8.i (q8.b fun v2 h2 => q8.b fun v3 _ => ih _ v2 (q8_with h v2 h2)) (q8_p39 h))
theorem q8_l27 {a : Int32} {x1 : Int32} : ∀ (n : Nat) (x2 : Int32) (σ : mS), σ.2 50 = a → q8 a (f_leave_27 n x1 x2 σ) := by
  intro n
  induction n with
  | zero => intro x2 σ h; exact q8.n
  | succ n ih =>
    intro x2 σ h
    have g : ∀ y z, q8 a (f_leave_60 (f_leave_27 n) x1 x2 y z σ) := fun y z => q8.b fun s hs => ih _ s (q8_wr h s hs)
    rw [f_leave_27]
    exact q8.i (q8.s h) (q8.b fun v1 _ => q8.b fun v2 _ => q8.i (g _ _) (q8.b fun v3 _ => g _ _))
theorem q8_place {a : Int32} {σ : mS} (h : σ.2 50 = a) {x y z : Int32} : q8 a (f_markPlace x y z σ) := q8.b fun v _ => q8_p9 _ _ σ h
theorem q8_leave {a : Int32} {σ : mS} (h : σ.2 50 = a) : q8 a (f_leave σ) := q8.b fun v _ => q8_l27 _ _ _ ((sf_o (by decide)).trans ((sf_o (by decide)).trans h))
theorem q9_row {a : Int32} {σ : mS} (h : σ.2 50 = a) {x : Int32} : q9 a (f_markRow x σ) := by
  have g : ∀ τ : mS, τ.2 50 = a → q9 a (f_markRow_27 x τ) := fun τ hτ => q9.b fun v _ => q9.s hτ
  unfold f_markRow
  exact q9.i (q9.b fun v1 _ => q9.b fun v2 h2 => g v2 (q8_mark h v2 h2)) (q9.b fun v3 h3 => g v3 (q8_markAll h v3 h3))
theorem q9_h {a : Int32} {σ : mS} (h : σ.2 50 = a) {y : Int32} {F : Int32 × mS → Option (Int32 × mS)} (k : ∀ (z : Int32) (τ : mS), τ.2 50 = a → q9 a (F (z, τ))) : q9 a ((f_holds y σ).bind F) := q9.b fun v hv => by
  have : v.2.2 50 = a := by
    unfold f_holds at hv
    by_cases c : y ≤ 0
    · rw [if_pos c] at hv; cases hv; exact (sf_o (by decide)).trans h
    · rw [if_neg c] at hv; cases hv; exact (sf_o (by decide)).trans h
  exact k v.1 v.2 this
theorem q9_turn {x1 x2 : Int32} {σ : mS} : q9 (σ.2 50) (f_turn x1 x2 σ) := by
  have g21 : ∀ y, q9 (σ.2 50) (f_turn_21 x1 x2 y σ) := fun y => q9_h rfl fun z τ h => by
    have g : ∀ y1 y2 y3 : Int32, q9 (σ.2 50) (f_turn_59 y1 y2 y3 τ) := fun y1 y2 y3 => q9.b fun s hs => q9.b fun t ht => q9.z (q8_markAll (q8_wr h s hs) t ht)
    have g2 : ∀ y, q9 (σ.2 50) (f_turn_44 x1 x2 y τ) := fun y => q9.i (g _ _ _) (g _ _ _)
    exact q9.i (q9.b fun v _ => q9.i (g2 _) (g2 _)) (q9.z h)
  unfold f_turn
  exact q9.b fun v _ => q9.i (g21 _) (g21 _)
theorem q8_h {a : Int32} {σ : mS} (h : σ.2 50 = a) {y : Int32} {F : Int32 × mS → Option mS} (k : ∀ (z : Int32) (τ : mS), τ.2 50 = a → q8 a (F (z, τ))) : q8 a ((f_holds y σ).bind F) := q8.b fun v hv => by
  have : v.2.2 50 = a := by
    unfold f_holds at hv
    by_cases c : y ≤ 0
    · rw [if_pos c] at hv; cases hv; exact (sf_o (by decide)).trans h
    · rw [if_neg c] at hv; cases hv; exact (sf_o (by decide)).trans h
  exact k v.1 v.2 this
theorem q8_when {x1 x2 x3 : Int32} {σ : mS} : q8 (σ.2 50) (f_when x1 x2 x3 σ) := by
  have g : ∀ y, q8 (σ.2 50) (f_when_42 x1 x2 x3 y σ) := fun y => q8_h rfl fun z τ h => q8.i (q8.b fun s hs => q8.b fun t ht => q8.b fun u hu => q8.s (q8_markAll (q8_wr (q8_wr h s hs) t ht) u hu)) (q8.s h)
  unfold f_when
  exact q8.b fun v _ => q8.i (g _) (q8.b fun v2 _ => q8.i (g _) (q8.b fun v3 _ => q8.i (g _) (g _)))
section W50
variable {mm : Nat × Nat × Nat} {hl dr : Bool} {T T' : qqT} {G G' : qqG} {σ σ' : mS} {k : Nat}
theorem u_sc (p : P_sc T G σ T' G' σ') : σ'.2 50 = σ.2 50 := p.2.2.2.2.2.2 50 (by decide)
theorem u_rd (J : J1 T G σ) (q : Q k mm hl dr T G σ) (hk : k < 60000) (e : f_read (sf σ 81 0) = some σ') : σ'.2 50 = σ.2 50 := by
  have hw := J.1.1
  have J0 := J.sf81 0
  have q0 : Q k mm hl dr T G (sf σ 81 0) := Q_sc0 hw J.1.2.2.r40 q (scE.of (scR_sf σ 0))
  unfold f_read at e
  rw [show (4000 : Nat) = 3999 + 1 from rfl, f_read_2, if_neg (by decide), r_needs hw J0.1.2.1, qqx, b2_i0] at e
  cases hn : ndB T (sf σ 81 0) with
  | false =>
    rw [hn, if_neg (by decide)] at e
    obtain ⟨τ', e1, s1⟩ := rdP J0 (sB.rf (sf σ 81 0)) (L1 := []) (L2 := []) (by simp) (by simp)
    rw [e] at e1
    cases e1
    exact (s1.2.2.2.2 50 (by decide)).trans (sf_o (by decide))
  | true =>
    rw [hn, if_pos rfl] at e
    obtain ⟨σ2, e2, q2, n2, s2⟩ := Fl_flush J0 q0 hk
    have rt2 : RT T σ2 := J0.1.2.1.sB s2 (by decide) (by decide)
    rw [e2, qqx, show (4000 : Nat) = 3999 + 1 from rfl, f_read_20, s2.2 70 (by decide), J0.2.2.2.2.1.2.2.2, if_pos (show (0 : Int32) ≤ 0 by decide), show (3999 : Nat) = 3998 + 1 from rfl, f_read_2, if_neg (by decide), r_needs hw rt2, qqx, n2, if_pos (show b2 false = 0 from rfl)] at e
    obtain ⟨τ', e1, s1⟩ := rdP J0 s2 (by decide) (by decide)
    rw [e] at e1
    cases e1
    exact (s1.2.2.2.2 50 (by decide)).trans ((s2.2 50 (by decide)).trans (sf_o (by decide)))
theorem u0 : (sf σ 81 0).2 50 = σ.2 50 := sf_o (by decide)
theorem u_cl (p : P_cl T G σ T' G' σ') : σ'.2 50 = σ.2 50 := by
  obtain ⟨-, -, e, c, nv, -, -, -, h⟩ := p
  exact q8_markTest (σ := up (sf σ 81 0) 1 e nv) u0 σ' h
theorem u_pt (p : P_pt T G σ T' G' σ') : σ'.2 50 = σ.2 50 := by
  obtain ⟨-, -, e, x, -, h⟩ := p
  exact q8_mark (σ := up (sf σ 81 0) 5 e x) u0 σ' h
theorem u_at (p : P_at T G σ T' G' σ') : σ'.2 50 = σ.2 50 := by
  obtain ⟨-, e, x, -, ⟨-, h⟩ | ⟨-, σ4, h4, h⟩⟩ := p
  · exact q8_markTest (σ := up (sf σ 81 0) 3 e x) u0 σ' h
  · exact q8_markTest (q8_hosts (σ := up (sf σ 81 0) 4 e x) u0 σ4 h4) σ' h
theorem u_sd (p : P_sd T G σ T' G' σ') : σ'.2 50 = σ.2 50 := by
  obtain ⟨-, e, -, -, h⟩ := p
  exact q8_markAll (σ := up (sf σ 81 0) 8 e 1) u0 σ' h
theorem u_sh (p : P_sh T G σ T' G' σ') : σ'.2 50 = σ.2 50 := by
  obtain ⟨-, h, σw, -, s, rfl⟩ := p
  exact (sf_o (by decide)).trans ((s.2 50 (by decide)).trans u0)
theorem u_ru (p : P_ru T G σ T' G' σ') : σ'.2 50 = σ.2 50 := by
  obtain ⟨-, f, s, σw, -, -, -, -, s, rfl⟩ := p
  exact (sf_o (by decide)).trans ((s.2 50 (by decide)).trans u0)
theorem u_rw {pp : Int32} (p : P_rw T G σ pp T' G' σ') : σ'.2 50 = σ.2 50 := by
  obtain ⟨-, -, a, σ1, val, -, s, -, h⟩ := p
  exact q9_row ((s.2 50 (by decide)).trans u0) _ h
theorem u_ts {x : Int32} (p : P_ts T G σ x T' G' σ') : σ'.2 50 = σ.2 50 := (p.2.2.1 50).trans u0
theorem u_jn (p : P_jn T G σ T' G' σ') : σ'.2 50 = σ.2 50 := by
  obtain ⟨-, -, m, y, -, -, -, -, rfl⟩ := p
  exact u0
theorem u_se (p : P_se T G σ T' G' σ') : σ'.2 50 = σ.2 50 := (p.2.2.2.1.2 50 (by decide)).trans u0
theorem u_mk (p : P_mk T G σ T' G' σ') : σ'.2 50 = σ.2 50 := by
  obtain ⟨-, x, b, -, -, rfl⟩ := p
  exact (sf_o (by decide)).trans u0
theorem u_in (p : P_in T G σ T' G' σ') : σ'.2 50 = σ.2 50 := by
  obtain ⟨-, b, e, p, i, σ2, σ5, tc, -, -, s, -, -, -, -, h1, h2⟩ := p
  exact q8_place (q8_with ((s.2 50 (by decide)).trans u0) σ5 h1) σ' h2
theorem u_tk (p : P_tk T G σ T' G' σ') : σ'.2 50 = σ.2 50 := by
  obtain ⟨-, b, e, p, i, σ2, σ6, tc, -, -, s, -, -, -, -, h1, h2⟩ := p
  exact q8_leave (q8_place ((s.2 50 (by decide)).trans u0) σ6 h1) σ' h2
end W50
