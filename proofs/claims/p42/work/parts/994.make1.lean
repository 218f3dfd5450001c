def Tnw (T : qqT) (b : Bool) : qqT := (Tn T + 1, Tp T, Th T, Tc T, Tt T, Ts T, fun e => if e = Tn T then b else Tk T e, Ta T)
theorem qqIt_c2 {α : Type} {fin fin' : Nat → α} {f f' : Nat → α → α} {st : Nat → Option Nat} {N : Nat} (h1 : ∀ e, e < N → fin e = fin' e) (h2 : ∀ e r, e < N → f e r = f' e r) (h3 : ∀ e q, e < N → st e = some q → q < N) : ∀ k e, e < N → qqIt fin f st k e = qqIt fin' f' st k e := by
  intro k
  induction k with
  | zero => intro e he; exact h1 e he
  | succ k ih =>
    intro e he
    unfold qqIt
    cases hs : st e with
    | none => exact h1 e he
    | some q =>
      show f e (qqIt fin f st k q) = f' e (qqIt fin' f' st k q)
      rw [ih q (h3 e q he hs)]
      exact h2 _ _ he
theorem qqIt_n0 {α : Type} {fin : Nat → α} {f : Nat → α → α} {st : Nat → Option Nat} {e : Nat} (h : st e = none) : qqIt fin f st 30 e = fin e := by
  show (match st e with
    | none => fin e
    | some q => f e (qqIt fin f st 29 q)) = fin e
  rw [h]
theorem qqM_c2 {f g : Nat → Bool} : ∀ {n : Nat}, (∀ i, i < n → f i = g i) → qqM f n = qqM g n := by
  intro n
  induction n with
  | zero => intro _; rfl
  | succ n ih =>
    intro h
    show qqM f n ||| (if f n then (1 : Int32) <<< (nI n &&& 31) else 0) = qqM g n ||| (if g n then (1 : Int32) <<< (nI n &&& 31) else 0)
    rw [ih (fun i hi => h i (by omega)), h n (by omega)]
section MK1
variable {T : qqT} {σ σ' : mS} {b : Bool} {h : Option Nat}
theorem Tk_nw {e : Nat} (he : e < Tn T) : Tk (Tnw T b) e = Tk T e := if_neg (by omega)
theorem Tp_big (hw : Tw T) {e : Nat} (he : Tn T ≤ e) : Tp T e = none := by
  cases hp : Tp T e with
  | none => rfl
  | some p => have := (hw.p hp).1; omega
theorem Th_big (hw : Tw T) {e : Nat} (he : Tn T ≤ e) : Th T e = none := by
  cases hp : Th T e with
  | none => rfl
  | some p => have := (hw.h hp).1; omega
theorem Tc_big (hw : Tw T) {e : Nat} (he : Tn T ≤ e) : Tc T e = [] := List.eq_nil_iff_forall_not_mem.mpr (fun x hx => by have := (hw.clt hx).2; omega)
theorem Tt_big (hw : Tw T) {e : Nat} (he : Tn T ≤ e) : Tt T e = [] := List.eq_nil_iff_forall_not_mem.mpr (fun x hx => by have := (hw.tlt hx).2; omega)
theorem TR_big (hw : Tw T) {e : Nat} (he : Tn T ≤ e) : TR T e = e := qqIt_n0 (Tp_big hw he)
theorem TH_big (hw : Tw T) {e : Nat} (he : Tn T ≤ e) : TH T e = none := by unfold TH; rw [TR_big hw he]; exact Th_big hw he
theorem TD_big (hw : Tw T) {e : Nat} (he : Tn T ≤ e) : TD T e = false := by
  have : TD T e = decide (TR T e = 0) := qqIt_n0 (TH_big hw he)
  rw [this, TR_big hw he]
  have := hw.n1
  exact decide_eq_false (by omega)
theorem TL_big (hw : Tw T) {e : Nat} (he : Tn T ≤ e) : TL T e = 0 := qqIt_n0 (TH_big hw he)
theorem Tsb_big (hw : Tw T) {e : Nat} (he : Tn T ≤ e) : Tsb T e = [e] := by unfold Tsb; rw [Tp_big hw he, Th_big hw he]
theorem Tix_big (hw : Tw T) {e : Nat} (he : Tn T ≤ e) : Tix T e = 0 := by unfold Tix; rw [Tsb_big hw he]; simp
theorem Tnx_big (hw : Tw T) {e : Nat} (he : Tn T ≤ e) : Tnx T e = none := by unfold Tnx; rw [Tix_big hw he, Tsb_big hw he]; rfl
theorem Tpv_big (hw : Tw T) {e : Nat} (he : Tn T ≤ e) : Tpv T e = none := by unfold Tpv; rw [Tix_big hw he]; rfl
theorem Tsl_nw (hw : Tw T) (a : Int32) {e : Nat} (he : e < Tn T) : Tsl (Tnw T b) a e = Tsl T a e := by
  obtain ⟨μ, hμ⟩ := Tni_m hw
  refine qqIt_c2 (N := Tn T) (st := Tni T) (fun e he => ?_) (fun e r he => ?_) (fun e q he hq => (hμ e q he hq).1) 30 e he
  · rw [Tk_nw he]; rfl
  · rw [Tk_nw he]; rfl
theorem Tslot_nw (hw : Tw T) : Tslot (Tnw T b) = Tslot T := by
  funext q a
  unfold Tslot
  show (match Tt T q with
    | [] => none
    | e :: _ => Tsl (Tnw T b) a e) = (match Tt T q with
    | [] => none
    | e :: _ => Tsl T a e)
  cases hl : Tt T q with
  | nil => rfl
  | cons e r => exact Tsl_nw hw a (hw.tlt (p := q) (by rw [hl]; exact List.mem_cons_self)).1
theorem Tsp_nw (hw : Tw T) : Tsp (Tnw T b) = Tsp T := by
  funext e
  unfold Tsp
  rw [Tslot_nw hw]; rfl
theorem TB_nw (hw : Tw T) : TB (Tnw T b) = TB T := by
  funext x e
  unfold TB
  rw [Tsp_nw hw]
theorem Tfl_nw (hw : Tw T) : Tfl (Tnw T b) = Tfl T := by
  funext x l
  unfold Tfl
  rw [Tsp_nw hw]
theorem Tfs_nw (hw : Tw T) : Tfs (Tnw T b) = Tfs T := by
  funext x
  unfold Tfs
  show (match TH T x with
    | some q => if Tk (Tnw T b) x = true then Tc T q else []
    | none => []) = (match TH T x with
    | some q => if Tk T x = true then Tc T q else []
    | none => [])
  by_cases hx : x < Tn T
  · rw [Tk_nw hx]
  · rw [TH_big hw (by omega)]
theorem Tfan_nw (hw : Tw T) : Tfan (Tnw T b) = Tfan T := by
  funext x
  unfold Tfan
  rw [Tfl_nw hw, Tfs_nw hw]; rfl
theorem TordF_nw (hw : Tw T) : ∀ k l, TordF (Tnw T b) k l = TordF T k l := by
  intro k
  induction k with
  | zero => intro l; rfl
  | succ k ih =>
    intro l
    cases l with
    | nil => rfl
    | cons x r =>
      show x :: TordF (Tnw T b) k (Tfan (Tnw T b) x ++ r) = x :: TordF T k (Tfan T x ++ r)
      rw [Tfan_nw hw, ih]
theorem Tord_nw (hw : Tw T) : Tord (Tnw T b) = Tord T := TordF_nw hw 30 [0]
theorem Tw_nw (hw : Tw T) (hn : Tn T < 30) : Tw (Tnw T b) := by
  have n1 := hw.n1
  obtain ⟨-, a2, a3, a4, a5, a6, a7, a8, a9, a10, a11⟩ := hw
  refine ⟨⟨(show 1 ≤ Tn T + 1 by omega), (show Tn T + 1 ≤ 30 by omega)⟩, fun e p hp => ?_, a3, fun e p hp => ?_, a5, a6, a7, a8, a9, a10, a11⟩
  · obtain ⟨y1, y2, y3⟩ := a2 e p hp
    exact ⟨(show e < Tn T + 1 by omega), (show p < Tn T + 1 by omega), y3⟩
  · obtain ⟨y1, y2, y3⟩ := a4 e p hp
    exact ⟨(show e < Tn T + 1 by omega), (show p < Tn T + 1 by omega), y3⟩
def mkS (T : qqT) (σ σ' : mS) : Prop := (∀ f, f ≠ 0 → σ'.1 f = σ.1 f) ∧ ∀ e, e ≠ Tn T → σ'.1 0 e = σ.1 0 e
theorem qSet_big (hw : Tw T) : ∀ m a, bt (qSet T σ h m a) (Tn T) = false := by
  have h30 := hw.n30
  intro m
  induction m with
  | zero => intro a; exact b_0 _
  | succ m ih =>
    intro a
    show bt (if a = m then qqM (qSv T σ (qSet T σ h m) h m) (Tn T) else qSet T σ h m a) (Tn T) = false
    by_cases c : a = m
    · rw [if_pos c, qqM_bt _ _ (by omega) _ (by omega), decide_eq_false (by omega)]; rfl
    · rw [if_neg c]; exact ih a
theorem qTs_nw {M : Nat → Int32} (hM : ∀ a, bt (M a) (Tn T) = false) (s : mkS T σ σ') {i e : Nat} (he : e ≠ Tn T) : qTs (Tnw T b) σ' M i e = qTs T σ M i e := by
  have eA : tA σ' i = tA σ i := by unfold tA; rw [s.1 18 (by decide)]
  have eB : tB σ' i = tB σ i := by unfold tB; rw [s.1 19 (by decide)]
  have key : qAny (fun x => bt (M (tB σ i)) x && Trl (Tnw T b) (tA σ i) x e) (Tn (Tnw T b)) = qAny (fun x => bt (M (tB σ i)) x && Trl T (tA σ i) x e) (Tn T) := by
    show (qAny (fun x => bt (M (tB σ i)) x && Trl T (tA σ i) x e) (Tn T) || (bt (M (tB σ i)) (Tn T) && Trl T (tA σ i) (Tn T) e)) = _
    rw [hM, Bool.false_and, Bool.or_false]
  unfold qTs
  rw [eA, eB, s.1 1 (by decide), s.1 2 (by decide), s.1 3 (by decide), s.1 4 (by decide), s.1 17 (by decide), s.1 18 (by decide), s.1 19 (by decide), s.2 e he, key]
  rfl
theorem qHs_nw (s : mkS T σ σ') (x k : Nat) : qHs σ' x k = qHs σ x k := by unfold qHs nTt; rw [s.1 16 (by decide), s.1 17 (by decide)]
theorem qCp_nw {M : Nat → Int32} (hM : ∀ a, bt (M a) (Tn T) = false) (s : mkS T σ σ') {x k e : Nat} (he : e ≠ Tn T) : qCp (Tnw T b) σ' M h x k e = qCp T σ M h x k e := by
  unfold qCp qBs9
  rw [qHs_nw s, show nTt σ' x k = nTt σ x k by unfold nTt; rw [s.1 16 (by decide)], qAny_cg (fun t _ => by rw [qTs_nw (b := b) hM s he])]
  rfl
theorem qCp_n (hw : Tw T) (hh : ∀ q, h = some q → q < Tn T) {M : Nat → Int32} {x k : Nat} : qCp (Tnw T b) σ' M h x k (Tn T) = false := by
  have n1 := hw.n1
  unfold qCp qBs9
  have e1 : decide (h = some (Tn T)) = false := decide_eq_false (fun z => by have := hh _ z; omega)
  have e2 : Tmb (Tnw T b) h (Tn T) = false := by
    cases h with
    | none =>
      show decide (TR T (Tn T) = 0) = false
      rw [TR_big hw (Nat.le_refl _)]; exact decide_eq_false (by omega)
    | some q =>
      show decide (TH T (Tn T) = some q) = false
      rw [TH_big hw (Nat.le_refl _)]; exact decide_eq_false (fun z => by cases z)
  rw [e1, e2, ite_self, Bool.false_and]
theorem qRw_n (hw : Tw T) (hh : ∀ q, h = some q → q < Tn T) {M : Nat → Int32} {x : Nat} (k : Nat) : qRw (Tnw T b) σ' M h x k (Tn T) = false := by
  cases k with
  | zero => exact qCp_n hw hh
  | succ k =>
    show (qCp (Tnw T b) σ' M h x (k + 1) (Tn T) && _) = false
    rw [qCp_n hw hh, Bool.false_and]
theorem qRw_nw (hw : Tw T) (hh : ∀ q, h = some q → q < Tn T) {M : Nat → Int32} (hM : ∀ a, bt (M a) (Tn T) = false) (s : mkS T σ σ') {x : Nat} : ∀ k e, e ≠ Tn T → qRw (Tnw T b) σ' M h x k e = qRw T σ M h x k e := by
  intro k
  induction k with
  | zero => intro e he; exact qCp_nw hM s he
  | succ k ih =>
    intro e he
    have ec : cO σ' x (k + 1) = cO σ x (k + 1) := by unfold cO; rw [s.1 15 (by decide)]
    show (qCp (Tnw T b) σ' M h x (k + 1) e && (qAny (fun f => qRw (Tnw T b) σ' M h x k f && Trl T (cO σ' x (k + 1)) e f) (Tn T) || (qRw (Tnw T b) σ' M h x k (Tn T) && Trl T (cO σ' x (k + 1)) e (Tn T)))) = (qCp T σ M h x (k + 1) e && qAny (fun f => qRw T σ M h x k f && Trl T (cO σ x (k + 1)) e f) (Tn T))
    rw [qRw_n hw hh, Bool.false_and, Bool.or_false, qCp_nw hM s he, ec, qAny_cg (fun f hf => by rw [ih f (by omega)])]
theorem qSv_nw (hw : Tw T) (hh : ∀ q, h = some q → q < Tn T) {M : Nat → Int32} (hM : ∀ a, bt (M a) (Tn T) = false) (s : mkS T σ σ') {x e : Nat} : (e ≠ Tn T → qSv (Tnw T b) σ' M h x e = qSv T σ M h x e) ∧ qSv (Tnw T b) σ' M h x (Tn T) = false := by
  have e14 : nC σ' x = nC σ x := by unfold nC; rw [s.1 14 (by decide)]
  refine ⟨fun he => ?_, ?_⟩
  · unfold qSv
    rw [s.1 21 (by decide), s.1 5 (by decide), e14, qRw_nw hw hh hM s _ e he]
    have e2 : qPt (TH (Tnw T b) e) (qRw (Tnw T b) σ' M h x (nC σ x - 1)) = qPt (TH T e) (qRw T σ M h x (nC σ x - 1)) := by
      show qPt (TH T e) _ = _
      cases hq : TH T e with
      | none => exact (qPt_n _).trans (qPt_n _).symm
      | some q =>
        have hq' : q < Tn T := by
          unfold TH at hq
          exact (hw.h hq).2.1
        rw [qPt_s, qPt_s]
        exact qRw_nw hw hh hM s _ q (by omega)
    rw [e2]
  · unfold qSv
    rw [qRw_n hw hh]
    have e2 : qPt (TH (Tnw T b) (Tn T)) (qRw (Tnw T b) σ' M h x (nC σ' x - 1)) = false := by
      show qPt (TH T (Tn T)) _ = false
      rw [TH_big hw (Nat.le_refl _)]; exact qPt_n _
    rw [e2, Bool.and_false, ite_self]
theorem qSet_nw (hw : Tw T) (hh : ∀ q, h = some q → q < Tn T) (s : mkS T σ σ') : ∀ m, qSet (Tnw T b) σ' h m = qSet T σ h m := by
  intro m
  induction m with
  | zero => rfl
  | succ m ih =>
    funext x
    show (if x = m then qqM (qSv (Tnw T b) σ' (qSet (Tnw T b) σ' h m) h m) (Tn T + 1) else qSet (Tnw T b) σ' h m x) = (if x = m then qqM (qSv T σ (qSet T σ h m) h m) (Tn T) else qSet T σ h m x)
    rw [ih]
    by_cases c : x = m
    · rw [if_pos c, if_pos c]
      have hM := qSet_big (σ := σ) (h := h) hw m
      show qqM _ (Tn T) ||| (if qSv (Tnw T b) σ' (qSet T σ h m) h m (Tn T) = true then (1 : Int32) <<< (nI (Tn T) &&& 31) else 0) = _
      rw [(qSv_nw (b := b) hw hh hM s (e := 0)).2, if_neg (by decide), or_00]
      exact qqM_c2 (fun i hi => (qSv_nw (b := b) hw hh hM s).1 (by omega))
    · rw [if_neg c, if_neg c]
theorem qMs_nw (hw : Tw T) (hh : ∀ q, h = some q → q < Tn T) (s : mkS T σ σ') (x : Nat) : qMs (Tnw T b) σ' h x = qMs T σ h x := by
  unfold qMs
  rw [qSet_nw hw hh s]
end MK1
