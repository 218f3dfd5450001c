/-! MATHS, 58: what each call of the law has to keep -/
def agr {T : Type} (L : List Nat) (vl : T → Int64) (q : Nat ⊕ T) (thr : Int32) (a : Int64) : Prop := lcd L q = some thr ∧ ∀ x, q = .inr x → vl x = a
theorem lcd_z1 {T : Type} {a : Nat} {q : Nat ⊕ T} {v : Int32} (h : lcd [a] q = some v) (hv : v = 0) : ∃ x, q = .inr x := by
  subst hv
  cases q with
  | inl k => exact absurd (lcd1 h).2 (by decide)
  | inr x => exact ⟨x, rfl⟩
theorem lcd_z2 {T : Type} {a b : Nat} {q : Nat ⊕ T} {v : Int32} (h : lcd [a, b] q = some v) (hv : v = 0) : ∃ x, q = .inr x := by
  subst hv
  cases q with
  | inl k => rcases lcd2 h with h | h <;> exact absurd h.2 (by decide)
  | inr x => exact ⟨x, rfl⟩
theorem lcd_z3 {T : Type} {a b d : Nat} {q : Nat ⊕ T} {v : Int32} (h : lcd [a, b, d] q = some v) (hv : v = 0) : ∃ x, q = .inr x := by
  subst hv
  cases q with
  | inl k => rcases lcd3 h with h | h | h <;> exact absurd h.2 (by decide)
  | inr x => exact ⟨x, rfl⟩
def sim_make (Sim Sim1 : cS → mS → Prop) : Prop := ∀ (S : cS) (σ : mS) (a1 : Int32), Sim S σ → ∃ q r, f_X11_make 1 a1 S = some q ∧ f_make a1 σ = some r ∧ agr [0, 1] lvN q.1 (r.2.2 81) (lvN r.1) ∧ ∀ n, q.2.2 ≤ n → Sim1 (q.2.1, n) r.2
def sim_shadow (Sim Sim1 : cS → mS → Prop) : Prop := ∀ (S : cS) (σ : mS) (a1 : Int32), Sim S σ → ∃ q r, f_X11_shadow 1 a1 S = some q ∧ f_shadow a1 σ = some r ∧ lcd [2, 1] q.1 = some (r.2 81) ∧ ∀ n, q.2.2 ≤ n → Sim1 (q.2.1, n) r
def sim_put (Sim Sim1 : cS → mS → Prop) : Prop := ∀ (S : cS) (σ : mS) (a1 : Int32) (a2 : Int32) (a3 : Int32), Sim S σ → ∃ q r, f_X11_put 1 a1 a2 a3 S = some q ∧ f_put a1 a2 a3 σ = some r ∧ lcd [2, 1] q.1 = some (r.2 81) ∧ ∀ n, q.2.2 ≤ n → Sim1 (q.2.1, n) r
def sim_putTop (Sim Sim1 : cS → mS → Prop) : Prop := ∀ (S : cS) (σ : mS) (a1 : Int32) (a2 : Int32) (a3 : Int32), Sim S σ → ∃ q r, f_X11_putTop 1 a1 a2 a3 S = some q ∧ f_putTop a1 a2 a3 σ = some r ∧ lcd [2, 1] q.1 = some (r.2 81) ∧ ∀ n, q.2.2 ≤ n → Sim1 (q.2.1, n) r
def sim_take (Sim Sim1 : cS → mS → Prop) : Prop := ∀ (S : cS) (σ : mS) (a1 : Int32), Sim S σ → ∃ q r, f_X11_take 1 a1 S = some q ∧ f_take a1 σ = some r ∧ agr [2, 1] lvN q.1 (r.2.2 81) (lvN r.1) ∧ ∀ n, q.2.2 ≤ n → Sim1 (q.2.1, n) r.2
def sim_setClass (Sim Sim1 : cS → mS → Prop) : Prop := ∀ (S : cS) (σ : mS) (a1 : Int32) (a2 : Int32) (a3 : Int32), Sim S σ → (a3 = 0 ∨ a3 = 1) → ∃ q r, f_X11_setClass 1 a1 a2 a3 S = some q ∧ f_setClass a1 a2 a3 σ = some r ∧ agr [2, 0] lvZ q.1 (r.2.2 81) (lvZ r.1) ∧ ∀ n, q.2.2 ≤ n → Sim1 (q.2.1, n) r.2
def sim_setState (Sim Sim1 : cS → mS → Prop) : Prop := ∀ (S : cS) (σ : mS) (a1 : Int32) (a2 : Int32) (a3 : Int32), Sim S σ → (a3 = 0 ∨ a3 = 1) → ∃ q r, f_X11_setState 1 a1 a2 a3 S = some q ∧ f_setState a1 a2 a3 σ = some r ∧ agr [2, 0] lvZ q.1 (r.2.2 81) (lvZ r.1) ∧ ∀ n, q.2.2 ≤ n → Sim1 (q.2.1, n) r.2
def sim_setAttribute (Sim Sim1 : cS → mS → Prop) : Prop := ∀ (S : cS) (σ : mS) (a1 : Int32) (a2 : Int32) (a3 : Int32), Sim S σ → ∃ q r, f_X11_setAttribute 1 a1 a2 a3 S = some q ∧ f_setAttribute a1 a2 a3 σ = some r ∧ agr [2, 0] lvN q.1 (r.2.2 81) (lvN r.1) ∧ ∀ n, q.2.2 ≤ n → Sim1 (q.2.1, n) r.2
def sim_setPart (Sim Sim1 : cS → mS → Prop) : Prop := ∀ (S : cS) (σ : mS) (a1 : Int32) (a2 : Int32), Sim S σ → ∃ q r, f_X11_setPart 1 a1 a2 S = some q ∧ f_setPart a1 a2 σ = some r ∧ agr [2, 0] lvN q.1 (r.2.2 81) (lvN r.1) ∧ ∀ n, q.2.2 ≤ n → Sim1 (q.2.1, n) r.2
def sim_shownParent (Sim Sim1 : cS → mS → Prop) : Prop := ∀ (S : cS) (σ : mS) (a1 : Int32), Sim S σ → ∃ q r, f_X11_shownParent 1 a1 S = some q ∧ f_shownParent a1 σ = some r ∧ agr [2] lvN q.1 (r.2.2 81) (lvN r.1) ∧ ∀ n, q.2.2 ≤ n → Sim1 (q.2.1, n) r.2
def sim_isIn (Sim Sim1 : cS → mS → Prop) : Prop := ∀ (S : cS) (σ : mS) (a1 : Int32), Sim S σ → ∃ q r, f_X11_isIn 1 a1 S = some q ∧ f_isIn a1 σ = some r ∧ agr [2] lvZ q.1 (r.2.2 81) (lvZ r.1) ∧ ∀ n, q.2.2 ≤ n → Sim1 (q.2.1, n) r.2
def sim_test (Sim Sim1 : cS → mS → Prop) : Prop := ∀ (S : cS) (σ : mS) (a1 : Int32) (a2 : Int32) (a3 : Int32), Sim S σ → ∃ q r, f_X11_test 1 a1 a2 a3 S = some q ∧ f_test a1 a2 a3 σ = some r ∧ agr [0, 2, 1] lvN q.1 (r.2.2 81) (lvN r.1) ∧ ∀ n, q.2.2 ≤ n → Sim1 (q.2.1, n) r.2
def sim_join (Sim Sim1 : cS → mS → Prop) : Prop := ∀ (S : cS) (σ : mS) (a1 : Int32), Sim S σ → ∃ q r, f_X11_join 1 a1 S = some q ∧ f_join a1 σ = some r ∧ agr [0, 1] lvN q.1 (r.2.2 81) (lvN r.1) ∧ ∀ n, q.2.2 ≤ n → Sim1 (q.2.1, n) r.2
def sim_select (Sim Sim1 : cS → mS → Prop) : Prop := ∀ (S : cS) (σ : mS) , Sim S σ → ∃ q r, f_X11_select 1  S = some q ∧ f_select  σ = some r ∧ agr [1] lvN q.1 (r.2.2 81) (lvN r.1) ∧ ∀ n, q.2.2 ≤ n → Sim1 (q.2.1, n) r.2
def sim_weight (Sim Sim1 : cS → mS → Prop) : Prop := ∀ (S : cS) (σ : mS) (a1 : Int32), Sim S σ → ∃ q r, f_X11_weight 1 a1 S = some q ∧ f_weight a1 σ = some r ∧ agr [2] lvN q.1 (r.2.2 81) (lvN r.1) ∧ ∀ n, q.2.2 ≤ n → Sim1 (q.2.1, n) r.2
def sim_matches (Sim Sim1 : cS → mS → Prop) : Prop := ∀ (S : cS) (σ : mS) (a1 : Int32) (a2 : Int32) (a3 : Int32), Sim S σ → ∃ q r, f_X11_matches 1 a1 a2 a3 S = some q ∧ f_matches a1 a2 a3 σ = some r ∧ agr [2] lvZ q.1 (r.2.2 81) (lvZ r.1) ∧ ∀ n, q.2.2 ≤ n → Sim1 (q.2.1, n) r.2
def sim_allThat (Sim Sim1 : cS → mS → Prop) : Prop := ∀ (S : cS) (σ : mS) (a1 : Int32) (a2 : Int32), Sim S σ → ∃ q r, f_X11_allThat 1 a1 a2 S = some q ∧ f_allThat a1 a2 σ = some r ∧ agr [2] lvN q.1 (r.2.2 81) (lvN r.1) ∧ ∀ n, q.2.2 ≤ n → Sim1 (q.2.1, n) r.2
def sim_sheet (Sim Sim1 : cS → mS → Prop) : Prop := ∀ (S : cS) (σ : mS) (a1 : Int32) (a2 : Int32) (a3 : Int32), Sim S σ → ∃ q r, f_X11_sheet 1 a1 a2 a3 S = some q ∧ f_sheet a1 a2 a3 σ = some r ∧ agr [0, 2, 1] lvN q.1 (r.2.2 81) (lvN r.1) ∧ ∀ n, q.2.2 ≤ n → Sim1 (q.2.1, n) r.2
def sim_turn (Sim Sim1 : cS → mS → Prop) : Prop := ∀ (S : cS) (σ : mS) (a1 : Int32) (a2 : Int32), Sim S σ → (a2 = 0 ∨ a2 = 1) → ∃ q r, f_X11_turn 1 a1 a2 S = some q ∧ f_turn a1 a2 σ = some r ∧ agr [2] lvZ q.1 (r.2.2 81) (lvZ r.1) ∧ ∀ n, q.2.2 ≤ n → Sim1 (q.2.1, n) r.2
def sim_rule (Sim Sim1 : cS → mS → Prop) : Prop := ∀ (S : cS) (σ : mS) (a1 : Int32) (a2 : Int32), Sim S σ → ∃ q r, f_X11_rule 1 a1 a2 S = some q ∧ f_rule a1 a2 σ = some r ∧ agr [2, 1] lvN q.1 (r.2.2 81) (lvN r.1) ∧ ∀ n, q.2.2 ≤ n → Sim1 (q.2.1, n) r.2
def sim_when (Sim Sim1 : cS → mS → Prop) : Prop := ∀ (S : cS) (σ : mS) (a1 : Int32) (a2 : Int32) (a3 : Int32), Sim S σ → ∃ q r, f_X11_when 1 a1 a2 a3 S = some q ∧ f_when a1 a2 a3 σ = some r ∧ lcd [2, 0] q.1 = some (r.2 81) ∧ ∀ n, q.2.2 ≤ n → Sim1 (q.2.1, n) r
def sim_declare (Sim Sim1 : cS → mS → Prop) : Prop := ∀ (S : cS) (σ : mS) (a1 : Int32) (a2 : Int32) (a3 : Int32) (a4 : Int32) (a5 : Int32), Sim S σ → (a5 = 0 ∨ a5 = 1) → ∃ q r, f_X11_declare 1 a1 a2 a3 a4 a5 S = some q ∧ f_declare a1 a2 a3 a4 a5 σ = some r ∧ agr [2, 0] lvN q.1 (r.2.2 81) (lvN r.1) ∧ ∀ n, q.2.2 ≤ n → Sim1 (q.2.1, n) r.2
def sim_declareVar (Sim Sim1 : cS → mS → Prop) : Prop := ∀ (S : cS) (σ : mS) (a1 : Int32) (a2 : Int32) (a3 : Int32) (a4 : Int32) (a5 : Int32) (a6 : Int32), Sim S σ → (a6 = 0 ∨ a6 = 1) → ∃ q r, f_X11_declareVar 1 a1 a2 a3 a4 a5 a6 S = some q ∧ f_declareVar a1 a2 a3 a4 a5 a6 σ = some r ∧ agr [2, 0] lvN q.1 (r.2.2 81) (lvN r.1) ∧ ∀ n, q.2.2 ≤ n → Sim1 (q.2.1, n) r.2
def sim_undeclare (Sim Sim1 : cS → mS → Prop) : Prop := ∀ (S : cS) (σ : mS) (a1 : Int32) (a2 : Int32), Sim S σ → ∃ q r, f_X11_undeclare 1 a1 a2 S = some q ∧ f_undeclare a1 a2 σ = some r ∧ agr [2, 0] lvN q.1 (r.2.2 81) (lvN r.1) ∧ ∀ n, q.2.2 ≤ n → Sim1 (q.2.1, n) r.2
def sim_setWidth (Sim Sim1 : cS → mS → Prop) : Prop := ∀ (S : cS) (σ : mS) (a1 : Int32), Sim S σ → ∃ q r, f_X11_setWidth 1 a1 S = some q ∧ f_setWidth a1 σ = some r ∧ agr [0] lvN q.1 (r.2.2 81) (lvN r.1) ∧ ∀ n, q.2.2 ≤ n → Sim1 (q.2.1, n) r.2
def sim_value (Sim Sim1 : cS → mS → Prop) : Prop := ∀ (S : cS) (σ : mS) (a1 : Int32) (a2 : Int32), Sim S σ → ∃ q r, f_X11_value 1 a1 a2 S = some q ∧ f_value a1 a2 σ = some r ∧ agr [2, 0, 1] lvN q.1 (r.2.2 81) (lvN r.1) ∧ ∀ n, q.2.2 ≤ n → Sim1 (q.2.1, n) r.2
def sim_size (Sim Sim1 : cS → mS → Prop) : Prop := ∀ (S : cS) (σ : mS) (a1 : Int32), Sim S σ → ∃ q r, f_X11_size 1 a1 S = some q ∧ f_size a1 σ = some r ∧ agr [2, 1] lvN q.1 (r.2.2 81) (lvN r.1) ∧ ∀ n, q.2.2 ≤ n → Sim1 (q.2.1, n) r.2
def sim_seen (Sim Sim1 : cS → mS → Prop) : Prop := ∀ (S : cS) (σ : mS) (a1 : Int32) (a2 : Int32), Sim S σ → ∃ q r, f_X11_seen 1 a1 a2 S = some q ∧ f_seen a1 a2 σ = some r ∧ agr [2, 0, 1] lvN q.1 (r.2.2 81) (lvN r.1) ∧ ∀ n, q.2.2 ≤ n → Sim1 (q.2.1, n) r.2
def sim_made (Sim Sim1 : cS → mS → Prop) : Prop := ∀ (S : cS) (σ : mS) (a1 : Int32), Sim S σ → ∃ q r, f_X11_made 1 a1 S = some q ∧ f_made a1 σ = some r ∧ agr [2, 1] lvN q.1 (r.2.2 81) (lvN r.1) ∧ ∀ n, q.2.2 ≤ n → Sim1 (q.2.1, n) r.2
def sim_why (Sim Sim1 : cS → mS → Prop) : Prop := ∀ (S : cS) (σ : mS) (a1 : Int32) (a2 : Int32) (a3 : Int32), Sim S σ → ∃ q r, f_X11_why 1 a1 a2 a3 S = some q ∧ f_why a1 a2 a3 σ = some r ∧ agr [2, 0, 1] lvN q.1 (r.2.2 81) (lvN r.1) ∧ ∀ n, q.2.2 ≤ n → Sim1 (q.2.1, n) r.2
def sim_valueAnew (Sim Sim1 : cS → mS → Prop) : Prop := ∀ (S : cS) (σ : mS) (a1 : Int32) (a2 : Int32), Sim S σ → ∃ q r, f_X11_valueAnew 1 a1 a2 S = some q ∧ f_valueAnew a1 a2 σ = some r ∧ agr [2, 0, 1] lvN q.1 (r.2.2 81) (lvN r.1) ∧ ∀ n, q.2.2 ≤ n → Sim1 (q.2.1, n) r.2
def sim_marked (Sim Sim1 : cS → mS → Prop) : Prop := ∀ (S : cS) (σ : mS), Sim S σ → Sim1 S σ ∧ ∃ r, f_X11_marked 1 S = some r ∧ f_marked σ = some r
def sim_flushes (Sim Sim1 : cS → mS → Prop) : Prop := ∀ (S : cS) (σ : mS), Sim S σ → Sim1 S σ ∧ ∃ r, f_X11_flushes 1 S = some r ∧ f_flushes σ = some r
def sim_restyled (Sim Sim1 : cS → mS → Prop) : Prop := ∀ (S : cS) (σ : mS), Sim S σ → Sim1 S σ ∧ ∃ r, f_X11_restyled 1 S = some r ∧ f_restyled σ = some r
def sim_shared (Sim Sim1 : cS → mS → Prop) : Prop := ∀ (S : cS) (σ : mS), Sim S σ → Sim1 S σ ∧ ∃ r, f_X11_shared 1 S = some r ∧ f_shared σ = some r
def sim_tick (Sim Sim1 : cS → mS → Prop) : Prop := ∀ (S : cS) (σ : mS) (a1 : Int32), Sim S σ → ∃ q r, f_X11_tick 1 a1 S = some q ∧ f_tick a1 σ = some r ∧ agr [0] lvN q.1 (r.2.2 81) (lvN r.1) ∧ ∀ n, q.2.2 ≤ n → Sim1 (q.2.1, n) r.2
def sim_animation (Sim Sim1 : cS → mS → Prop) : Prop := ∀ (S : cS) (σ : mS) (a1 : Int32) (a2 : Int32) (a3 : Int32) (a4 : Int32), Sim S σ → (a4 = 0 ∨ a4 = 1) → ∃ q r, f_X11_animation 1 a1 a2 a3 a4 S = some q ∧ f_animation a1 a2 a3 a4 σ = some r ∧ lcd [0] q.1 = some (r.2 81) ∧ ∀ n, q.2.2 ≤ n → Sim1 (q.2.1, n) r
def sim_frame (Sim Sim1 : cS → mS → Prop) : Prop := ∀ (S : cS) (σ : mS) (a1 : Int32) (a2 : Int32) (a3 : Int32) (a4 : Int32), Sim S σ → ∃ q r, f_X11_frame 1 a1 a2 a3 a4 S = some q ∧ f_frame a1 a2 a3 a4 σ = some r ∧ agr [0] lvN q.1 (r.2.2 81) (lvN r.1) ∧ ∀ n, q.2.2 ≤ n → Sim1 (q.2.1, n) r.2
def sim_listen (Sim Sim1 : cS → mS → Prop) : Prop := ∀ (S : cS) (σ : mS) (a1 : Int32) (a2 : Int32) (a3 : Int32) (a4 : Int32), Sim S σ → ∃ q r, f_X11_listen 1 a1 a2 a3 a4 S = some q ∧ f_listen a1 a2 a3 a4 σ = some r ∧ agr [2, 0, 1] lvN q.1 (r.2.2 81) (lvN r.1) ∧ ∀ n, q.2.2 ≤ n → Sim1 (q.2.1, n) r.2
theorem agr_l {T : Type} {L : List Nat} {vl : T → Int64} {k : Nat} {thr : Int32} {a : Int64} (h : lcdL L k 1 = some thr) : agr L vl (.inl k : Nat ⊕ T) thr a := ⟨h, fun _ z => by cases z⟩
theorem agr_r {T : Type} {L : List Nat} {vl : T → Int64} {x : T} {a : Int64} (h : vl x = a) : agr L vl (.inr x : Nat ⊕ T) 0 a := ⟨rfl, fun y z => by cases z; exact h⟩
/-- the relation, after k calls -/
def JW (k : Nat) (T : qqT) (G : qqG) (L : qqL) (A : kA) (ex : Nat → Nat → Prop) (K : kS) (v nw : Nat) (S : cS) (σ : mS) : Prop := (Tw T ∧ KA A ex K S ∧ kIn A ex K) ∧ A 49 0 = 1 ∧ (v ≤ 30 * k ∧ nw ≤ 1000 * k ∧ σ.2 54 = nI nw) ∧ J0 T G L ex K σ v
def J (k : Nat) (S : cS) (σ : mS) : Prop := ∃ T G L A ex K v nw, JW k T G L A ex K v nw S σ
theorem scR_sf (σ : mS) (y : Int32) : sB scL scN σ (sf σ 81 y) := ⟨fun _ _ => rfl, fun f hf => sf_o (fun z => hf (by rw [z]; decide))⟩
theorem in_lt (x : Int32) {n : Nat} (hn : n < 2 ^ 31) : decide (0 ≤ x ∧ x ≤ nI n - 1) = decide (0 ≤ x ∧ x < nI n) := by
  have e : (nI n - 1).toInt = (n : Int) - 1 := by
    rw [Int32.toInt_sub, nI_toInt hn, show (1 : Int32).toInt = 1 by decide, Int.bmod_eq_of_le (by omega) (by omega)]
  have : x ≤ nI n - 1 ↔ x < nI n := by
    rw [Int32.le_iff_toInt_le, Int32.lt_iff_toInt_lt, e, nI_toInt hn]
    omega
  exact decide_eq_decide.mpr (and_congr_right fun _ => this)
theorem ix_cases (x : Int32) {n : Nat} (hn : n < 2 ^ 31) : (∃ e, e < n ∧ x = nI e) ∨ ¬ (0 ≤ x ∧ x < nI n) := by
  by_cases h : 0 ≤ x ∧ x < nI n
  · left
    obtain ⟨h0, h1⟩ := h
    rw [Int32.le_iff_toInt_le, show (0 : Int32).toInt = 0 by decide] at h0
    rw [Int32.lt_iff_toInt_lt, nI_toInt hn] at h1
    refine ⟨x.toInt.toNat, by omega, Int32.toInt_inj.mp ?_⟩
    rw [nI_toInt (by omega)]
    omega
  · exact Or.inr h
theorem r_holds0 (σ : mS) : f_holds 0 σ = some (0, sf σ 81 0) := by
  unfold f_holds; rw [if_pos (by decide)]; rfl
theorem r_holds1 (σ : mS) : f_holds 1 σ = some (1, sf σ 81 1) := by
  unfold f_holds; rw [if_neg (by decide)]; rfl
theorem r_holds2 (σ : mS) : f_holds 2 σ = some (1, sf σ 81 2) := by
  unfold f_holds; rw [if_neg (by decide)]; rfl
theorem r_holds3 (σ : mS) : f_holds 3 σ = some (1, sf σ 81 3) := by
  unfold f_holds; rw [if_neg (by decide)]; rfl
/-- a call and what the reference says to it -/
def sJR (L : List Nat) (vl : Int32 → Int64) (J1 : cS → mS → Prop) (f : Option ((Nat ⊕ Int32) × cS)) (g : Option (Int32 × mS)) : Prop := ∃ q r, f = some q ∧ g = some r ∧ agr L vl q.1 (r.2.2 81) (vl r.1) ∧ ∀ n, q.2.2 ≤ n → J1 (q.2.1, n) r.2
def sJU {T : Type} (L : List Nat) (J1 : cS → mS → Prop) (f : Option ((Nat ⊕ T) × cS)) (g : Option mS) : Prop := ∃ q r, f = some q ∧ g = some r ∧ lcd L q.1 = some (r.2 81) ∧ ∀ n, q.2.2 ≤ n → J1 (q.2.1, n) r
theorem at49 {A : kA} {P : Nat → Prop} (h : A 49 0 = 1) (hp : P (A 49 0)) : P 1 := h ▸ hp
theorem sJR.l {L : List Nat} {vl : Int32 → Int64} {J1 : cS → mS → Prop} {c : Nat} {S : cS} {x y : Int32} {σ : mS} (h : lcdL L c 1 = some y) (k : ∀ n, S.2 ≤ n → J1 (S.1, n) (sf σ 81 y)) : sJR L vl J1 (some (.inl c, S)) (some (x, sf σ 81 y)) := ⟨_, _, rfl, rfl, agr_l (by rw [sf_s]; exact h), k⟩
theorem sJR.r {L : List Nat} {vl : Int32 → Int64} {J1 : cS → mS → Prop} {S : cS} {x y : Int32} {σ : mS} (h : vl x = vl y) (h0 : σ.2 81 = 0) (k : ∀ n, S.2 ≤ n → J1 (S.1, n) σ) : sJR L vl J1 (some (.inr x, S)) (some (y, σ)) := ⟨_, _, rfl, rfl, by rw [h0]; exact agr_r h, k⟩
theorem if_dt {α : Sort _} {c : Prop} [Decidable c] (h : c) (X Y : α) : (if b2 (decide c) = (0 : Int32) then X else Y) = Y := by rw [b2_i0, if_pos (decide_eq_true h)]
theorem if_df {α : Sort _} {c : Prop} [Decidable c] (h : ¬ c) (X Y : α) : (if b2 (decide c) = (0 : Int32) then X else Y) = X := by rw [b2_i0, decide_eq_false h, if_neg (by decide)]
theorem nI_inn {e n : Nat} (he : e < n) (hn : n < 2 ^ 31) : (0 : Int32) ≤ nI e ∧ nI e < nI n := ⟨Int32.not_lt.mp (nI_pos (by omega)), nI_lt he hn⟩
theorem rz_b2 (b : Bool) : rz (b2 b) = some (b2 b) := by cases b <;> rfl
theorem rzw_b2 (b : Bool) (σ : mS) : rzw (b2 b) σ = some (b2 b, σ) := by cases b <;> rfl
theorem lrzt_b2 (b : Bool) (S : cS) : lrzt (b2 b) S = some (.inr (b2 b), S) := by cases b <;> rfl
theorem lvZ_b2 (b : Bool) : lvZ (b2 b) = lvZ (b2 b) := rfl
section SIM
variable {T : qqT} {G : qqG} {L : qqL} {A : kA} {ex : Nat → Nat → Prop} {K K' : kS} {S S' : cS} {σ σ' : mS} {v v' nw k : Nat}
theorem r_isElement (hr : RT T σ) (hw : Tw T) (x : Int32) : f_isElement x σ = some (b2 (decide (0 ≤ x ∧ x < nI (Tn T)))) := by
  have h30 := hw.n30
  unfold f_isElement
  rw [hr.1, r_in, qqx, in_lt x (by omega), rz_b2]
theorem c_elementAt (hw : Tw T) (q : KQ T ex K) (hA : KA A ex K S) {e : Nat} (he : e < Tn T) : f_X11_elementAt (A 49 0) (nI e) S = some (.inr (some (A 0 e)), S) := by
  unfold f_X11_elementAt
  rw [q.2.1.trees hA, qqx, hA.Rc 50 10 (q.2.1.x (by decide) (by decide) (by decide)) rfl, qqx, c_at hw q.1 hA he, qqx, if_neg (fun z => by cases z)]
theorem c_elementN (hw : Tw T) (q : KQ T ex K) (hA : KA A ex K S) {x : Int32} (hx : ¬ (0 ≤ x ∧ x < nI (Tn T))) : f_X11_elementAt (A 49 0) x S = some (.inl 2, S) := by
  unfold f_X11_elementAt
  rw [q.2.1.trees hA, qqx, hA.Rc 50 10 (q.2.1.x (by decide) (by decide) (by decide)) rfl, qqx, c_atN hw q.1 hA hx, qqx, if_pos rfl]
theorem JW.to (w : JW k T G L A ex K v nw S σ) (hA : KA A ex K' S') (hin : kIn A ex K') (j : J0 T G L ex K' σ' v') (hv : v' ≤ v + 30) (h54 : σ'.2 54 = σ.2 54) : ∀ n, S'.2 ≤ n → J (k + 1) (S'.1, n) σ' := by
  intro n hn
  obtain ⟨⟨w1, w2, w3⟩, w4, ⟨w5, w6, w7⟩, w8⟩ := w
  exact ⟨T, G, L, A, ex, K', v', nw, ⟨w1, hA.mono hn, hin⟩, w4, ⟨by omega, by omega, h54.trans w7⟩, j⟩
theorem JW.no (w : JW k T G L A ex K v nw S σ) (y : Int32) : ∀ n, S.2 ≤ n → J (k + 1) (S.1, n) (sf σ 81 y) :=
  w.to w.1.2.1 w.1.2.2 (w.2.2.2.scR (scR_sf σ y)) (by omega) (sf_o (by decide))
theorem JW.up (w : JW k T G L A ex K v nw S σ) : J (k + 1) S σ := w.to w.1.2.1 w.1.2.2 w.2.2.2 (by omega) rfl S.2 (Nat.le_refl _)
theorem J.up (w : J k S σ) : J (k + 1) S σ := by
  obtain ⟨T, G, L, A, ex, K, v, nw, w⟩ := w
  exact w.up
theorem J.rc (w : J k S σ) : rc S (some 1) 11 = some 1 := by
  obtain ⟨T, G, L, A, ex, K, v, nw, w⟩ := w
  have := w.2.2.2.1.1.2.1.r11 w.1.2.1
  rw [w.2.1] at this
  exact this
theorem sim_ints : sim_flushes (J k) (J (k + 1)) ∧ sim_restyled (J k) (J (k + 1)) ∧ sim_shared (J k) (J (k + 1)) ∧ sim_marked (J k) (J (k + 1)) := by
  refine ⟨fun S σ h => ?_, fun S σ h => ?_, fun S σ h => ?_, fun S σ h => ?_⟩
  all_goals
    refine ⟨h.up, ?_⟩
    obtain ⟨T, G, L, A, ex, K, v, nw, ⟨hw, hA, hin⟩, h49, -, j⟩ := h
    have p9 := j.1.1.2.1
    have mk := j.2.2.2.2.1
  · refine ⟨K.1 49 0 11, ?_, ?_⟩
    · refine at49 (P := fun x => f_X11_flushes x S = _) h49 ?_
      unfold f_X11_flushes; rw [p9.I49 hA, qqx]
    · unfold f_flushes; rw [mk.2.2.1]
  · refine ⟨K.1 49 0 12, ?_, ?_⟩
    · refine at49 (P := fun x => f_X11_restyled x S = _) h49 ?_
      unfold f_X11_restyled; rw [p9.I49 hA, qqx]
    · unfold f_restyled; rw [mk.2.2.2.1]
  · refine ⟨K.1 49 0 13, ?_, ?_⟩
    · refine at49 (P := fun x => f_X11_shared x S = _) h49 ?_
      unfold f_X11_shared; rw [p9.I49 hA, qqx]
    · unfold f_shared; rw [mk.2.2.2.2]
  · refine ⟨K.1 49 0 10 &&& K.1 50 0 2, ?_, ?_⟩
    · refine at49 (P := fun x => f_X11_marked x S = _) h49 ?_
      unfold f_X11_marked; rw [p9.I49 hA, qqx, p9.trees hA, qqx, p9.I50 hA, qqx]
    · have h30 := hw.n30
      unfold f_marked
      rw [r_docMask hw j.1.2.2.2, qqx]
      refine congrArg some (b_ext fun e he => ?_)
      rw [b_and, b_and, j.1.1.2.2.1.2.1, qqM_bt _ _ (by omega) e he]
      by_cases c : e < Tn T
      · rw [decide_eq_true c, Bool.true_and]
        cases hd : TD T e with
        | true => rw [mk.2.1 e c hd]
        | false => rw [Bool.and_false, Bool.and_false]
      · rw [decide_eq_false c, Bool.false_and, Bool.and_false, Bool.and_false]
end SIM
