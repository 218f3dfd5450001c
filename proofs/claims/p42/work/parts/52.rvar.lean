def rW (into e : Nat) (σ σ' : mS) : Prop := σ'.2 = σ.2 ∧ (∀ f, f ∉ [43, 44, 45, 47] → σ'.1 f = σ.1 f) ∧ (∀ i, i / 12 ≠ 30 * into + e → σ'.1 43 i = σ.1 43 i) ∧ (∀ i, i / 3 ≠ 30 * into + e → σ'.1 44 i = σ.1 44 i ∧ σ'.1 45 i = σ.1 45 i) ∧ ∀ i, (into ≠ 0 ∨ i / 5 ≠ e) → σ'.1 47 i = σ.1 47 i
theorem rW.rf {a e : Nat} (σ : mS) : rW a e σ σ := ⟨rfl, fun _ _ => rfl, fun _ _ => rfl, fun _ _ => ⟨rfl, rfl⟩, fun _ _ => rfl⟩
theorem rW.tr {a e : Nat} {x y z : mS} (h : rW a e x y) (k : rW a e y z) : rW a e x z := ⟨k.1.trans h.1, fun f hf => (k.2.1 f hf).trans (h.2.1 f hf), fun i hi => (k.2.2.1 i hi).trans (h.2.2.1 i hi), fun i hi => ⟨(k.2.2.2.1 i hi).1.trans (h.2.2.2.1 i hi).1, (k.2.2.2.1 i hi).2.trans (h.2.2.2.1 i hi).2⟩, fun i hi => (k.2.2.2.2 i hi).trans (h.2.2.2.2 i hi)⟩
theorem up_sn {σ : mS} {f i j : Nat} {v : Int32} (h : j ≠ i) : (up σ f i v).1 f j = σ.1 f j := by rw [up_s, if_neg h]
theorem up_ss (σ : mS) (f i : Nat) (v : Int32) : (up σ f i v).1 f i = v := by rw [up_s, if_pos rfl]
theorem rW.w43 {a e i : Nat} {x y : mS} {v : Int32} (h : rW a e x y) (hi : i / 12 = 30 * a + e) : rW a e x (up y 43 i v) := by
  refine h.tr ⟨rfl, fun f hf => up_o (fun z => hf (by rw [z]; decide)), fun j hj => up_sn (fun z => hj (by rw [z]; exact hi)), fun j _ => ⟨?_, ?_⟩, fun j _ => ?_⟩
  · rw [up_o (by decide)]
  · rw [up_o (by decide)]
  · rw [up_o (by decide)]
theorem rW.w44 {a e i : Nat} {x y : mS} {v : Int32} (h : rW a e x y) (hi : i / 3 = 30 * a + e) : rW a e x (up y 44 i v) := by
  refine h.tr ⟨rfl, fun f hf => up_o (fun z => hf (by rw [z]; decide)), fun j _ => ?_, fun j hj => ⟨up_sn (fun z => hj (by rw [z]; exact hi)), ?_⟩, fun j _ => ?_⟩
  · rw [up_o (by decide)]
  · rw [up_o (by decide)]
  · rw [up_o (by decide)]
theorem rW.w45 {a e i : Nat} {x y : mS} {v : Int32} (h : rW a e x y) (hi : i / 3 = 30 * a + e) : rW a e x (up y 45 i v) := by
  refine h.tr ⟨rfl, fun f hf => up_o (fun z => hf (by rw [z]; decide)), fun j _ => ?_, fun j hj => ⟨?_, up_sn (fun z => hj (by rw [z]; exact hi))⟩, fun j _ => ?_⟩
  · rw [up_o (by decide)]
  · rw [up_o (by decide)]
  · rw [up_o (by decide)]
theorem rW.w47 {e i : Nat} {x y : mS} {v : Int32} (h : rW 0 e x y) (hi : i / 5 = e) : rW 0 e x (up y 47 i v) := by
  refine h.tr ⟨rfl, fun f hf => up_o (fun z => hf (by rw [z]; decide)), fun j _ => ?_, fun j hj => ⟨?_, ?_⟩, fun j hj => up_sn (fun z => ?_)⟩
  · rw [up_o (by decide)]
  · rw [up_o (by decide)]
  · rw [up_o (by decide)]
  · rcases hj with hj | hj
    · exact hj rfl
    · exact hj (by rw [z]; exact hi)
theorem rW.sB {a e : Nat} {x y : mS} (h : rW a e x y) : sB [43, 44, 45, 47] [] x y := ⟨h.2.1, fun f _ => by rw [h.1]⟩
theorem rW.o {a e : Nat} {x y : mS} (h : rW a e x y) {f : Nat} (hf : f ∉ [43, 44, 45, 47] := by decide) : y.1 f = x.1 f := h.2.1 f hf
section RV
variable {T : qqT} {G : qqG} {σ : mS}
theorem Lfnd_cg {σ' : mS} (h : ∀ f, f ∈ [20, 27, 29, 30, 34, 35, 37, 39, 74] → σ'.1 f = σ.1 f) (h2 : σ'.2 50 = σ.2 50) (o : Option Int32) (e p : Nat) : (∀ l, Lwin T G σ' o e p l = Lwin T G σ o e p l) ∧ Lfnd T G σ' o e p = Lfnd T G σ o e p := by
  have e20 := h 20 (by decide)
  have e27 := h 27 (by decide)
  have e29 := h 29 (by decide)
  have e30 := h 30 (by decide)
  have e34 := h 34 (by decide)
  have e35 := h 35 (by decide)
  have e37 := h 37 (by decide)
  have e39 := h 39 (by decide)
  have e74 := h 74 (by decide)
  have hor : Lor G σ' = Lor G σ := by funext a; unfold Lor; rw [e27]
  have him : Lim σ' = Lim σ := by funext p a; unfold Lim; rw [e39]
  have hrk : Lrk G σ' = Lrk G σ := by funext p a; unfold Lrk; rw [him, hor]
  have hly : Lly G σ' = Lly G σ := by funext a; unfold Lly; rw [e29]
  have hag : Lag T G σ' = Lag T G σ := by funext p a b; unfold Lag; rw [him, hrk, hly, e20]
  have hft : Lfit σ' = Lfit σ := by funext o r; unfold Lfit; rw [e34, e35, h2]
  have hst : Lst T G σ' = Lst T G σ := by funext r; unfold Lst; rw [e30]
  have hap : Lap T G σ' = Lap T G σ := by funext o e r; unfold Lap; rw [e74, hst, hft]
  have hdc : Ldc σ' = Ldc σ := by funext p a; unfold Ldc; rw [e37]
  have hwc : Lwc T G σ' = Lwc T G σ := by funext o e p l k b; unfold Lwc; rw [hdc, hor, hap, hag]
  have hwk : ∀ l k, Lwk T G σ' o e p l k = Lwk T G σ o e p l k := by
    intro l k
    induction k with
    | zero => unfold Lwk; rw [hdc]
    | succ k ih => unfold Lwk; rw [ih, hwc]
  have hwn : ∀ l, Lwin T G σ' o e p l = Lwin T G σ o e p l := fun l => hwk l (Gr G)
  refine ⟨hwn, ?_⟩
  have hff : ∀ k b, LfF T G σ' o e p k b = LfF T G σ o e p k b := by
    intro k
    induction k with
    | zero => intro b; rfl
    | succ k ih =>
      intro b
      cases b with
      | none => rfl
      | some a => unfold LfF; rw [e37, hor, hwn, ih]
  unfold Lfnd
  rw [hwn, hff]
theorem Tho_cg (hw : Tw T) {H H' : Nat → Bool} {e : Nat} (hh : ∀ x, x < Tn T → x ≠ e → H x = H' x) : ∀ y, y < Tn T → (TC T y).1 ≤ (TC T e).1 → Tho T H y = Tho T H' y := by
  intro y
  refine qqInd (st := Tsp T) (μ := fun e => (TC T e).1) (P := fun y => y < Tn T → (TC T y).1 ≤ (TC T e).1 → Tho T H y = Tho T H' y) ?_ y
  intro y ih hy hle
  rw [Tho_eq hw H hy, Tho_eq hw H' hy]
  cases hs : Tsp T y with
  | none => rfl
  | some z =>
    have h1 := Tsp_m hw hs
    have h2 := (Tsp_cases hw hs).2.1
    have h3 : z ≠ e := fun q => by rw [q] at h1; omega
    have h4 := ih z hs h1 h2 (by omega)
    show (if H z = true then some z else Tho T H z) = if H' z = true then some z else Tho T H' z
    rw [hh z h2 h3, h4]
theorem hsz_W (hw : Tw T) {σ' : mS} {into ar e : Nat} (he : e < Tn T) (b : rW into e σ σ') : hsz T σ' ar e = hsz T σ ar e := by
  have h30 := hw.n30
  unfold hsz
  rw [b.o (f := 46), Tho_cg hw (H := Hv σ' ar) (H' := Hv σ ar) (e := e) (fun x hx hne => ?_) e he (Nat.le_refl _)]
  unfold Hv
  rw [b.2.2.1 _ (by omega)]
def rI (T : qqT) (G : qqG) (σ : mS) (ar e : Nat) (tr : Bool) : qI := (fun p => Lfnd T G σ (if tr then none else hsz T σ ar e) e p, (Tsp T e).map (fun y => (fun p => σ.1 43 (12 * (30 * ar + y) + p), fun v => (σ.1 44 (3 * (30 * ar + y) + v), σ.1 45 (3 * (30 * ar + y) + v)))), σ.1 43 (360 * ar + 1), if tr then none else hsz T σ ar e)
def RS (T : qqT) (G : qqG) (σ : mS) : Prop := RT T σ ∧ RC T G σ ∧ shpS T σ (Tn T)
theorem RS.W {σ' : mS} {into e : Nat} (h : RS T G σ) (b : rW into e σ σ') : RS T G σ' := ⟨h.1.sB b.sB (by decide) (by decide), h.2.1.sB b.sB (by decide) (by decide), fun x hx => by rw [b.o (f := 77)]; exact h.2.2 x hx⟩
theorem r_foundW (hw : Tw T) (rs : RS T G σ) {σ' : mS} {into ar e p : Nat} (b : rW into e σ σ') (har : ar < 3) (he : e < Tn T) (hp : p < 15) (tr : Bool) : f_found (nI e) (nI p) (nI ar) (b2 tr) σ' = some (rwc p ((rI T G σ ar e tr).1 p)) := by
  have rs' := rs.W b
  rw [r_found hw rs'.1 rs'.2.1 rs'.2.2 har he hp tr, hsz_W hw he b, (Lfnd_cg (σ := σ) (fun f hf => b.2.1 f (by revert f; decide)) (by rw [b.1]) _ e p).2]
  rfl
theorem Lfnd_vr (hc : RC T G σ) {o : Option Int32} {e p a : Nat} (he : e < Tn T) (h : Lfnd T G σ o e p = some a) : VR T G a ∧ Ldc σ p a = true ∧ ¬ σ.1 37 (16 * a + p) = 10 := by
  have key : ∀ k b, (∀ a, b = some a → VR T G a ∧ Ldc σ p a = true ∧ ∃ z, z < k ∧ Lor G σ a = nI z) → LfF T G σ o e p k b = some a → VR T G a ∧ Ldc σ p a = true ∧ ¬ σ.1 37 (16 * a + p) = 10 := by
    intro k
    induction k with
    | zero =>
      intro b hb hf
      cases b with
      | none => cases hf
      | some c => obtain ⟨-, -, z, hz, -⟩ := hb c rfl; omega
    | succ k ih =>
      intro b hb hf
      cases b with
      | none => cases hf
      | some c =>
        obtain ⟨h1, h2, z, hz, h3⟩ := hb c rfl
        unfold LfF at hf
        by_cases hten : σ.1 37 (16 * c + p) = 10
        · rw [if_pos hten] at hf
          refine ih _ (fun d hd => ?_) hf
          obtain ⟨k1, k2, k3, -⟩ := Lwin_is hc he hd
          obtain ⟨o', ho', ho2⟩ := hc.lor k1
          refine ⟨k1, k3, o', ?_, ho2⟩
          rw [ho2, h3] at k2
          obtain ⟨w, hw3, hw4⟩ := hc.lor h1
          have : z < 2 ^ 31 ∨ 2 ^ 31 ≤ z := by omega
          rcases this with hz31 | hz31
          · have := (nI_ltI (by omega) hz31).mp k2
            omega
          · rw [← h3, hw4] at k2
            have := (nI_ltI (by omega) (by omega)).mp k2
            omega
        · rw [if_neg hten] at hf
          cases hf
          exact ⟨h1, h2, hten⟩
  refine key 3 _ (fun c hc2 => ?_) h
  obtain ⟨k1, k2, k3, -⟩ := Lwin_is hc he hc2
  exact ⟨k1, k3, hc.lor k1⟩
theorem ix12 (a e : Nat) : (12 : Int32) * ((30 : Int32) * nI a + nI e) = nI (12 * (30 * a + e)) := by
  rw [show (30 : Int32) = nI 30 from rfl, show (12 : Int32) = nI 12 from rfl, pk_mul, nI_add, pk_mul]
theorem ix3 (a e : Nat) : (3 : Int32) * ((30 : Int32) * nI a + nI e) = nI (3 * (30 * a + e)) := by
  rw [show (30 : Int32) = nI 30 from rfl, show (3 : Int32) = nI 3 from rfl, pk_mul, nI_add, pk_mul]
theorem RS.sp (rs : RS T G σ) (hw : Tw T) {e : Nat} (he : e < Tn T) : rd σ 77 (nI e) = some (qqO (Tsp T e)) := by
  have := hw.n30
  rw [rd_77 (by omega), rs.2.2 e he]
def vrW (σ' : mS) (at0 : Nat) (k : Nat) (f : Nat → qP) : Prop := ∀ v, v < k → σ'.1 44 (at0 + v) = (f v).1 ∧ σ'.1 45 (at0 + v) = (f v).2
theorem rd_77' {σ σ' : mS} {i : Int32} (h : σ'.1 77 = σ.1 77) : rd σ' 77 i = rd σ 77 i := by unfold rd; rw [h]
theorem vIn_rI {ar e : Nat} {tr : Bool} (v : Nat) : vIn (qiV (rI T G σ ar e tr)) v = match Tsp T e with
    | none => (-1, 0)
    | some y => (σ.1 44 (3 * (30 * ar + y) + v), σ.1 45 (3 * (30 * ar + y) + v)) := by
  unfold vIn qiV rI
  cases Tsp T e <;> rfl
theorem rz2 (x : Int32) (y : Int32) (h : y = 0) : x ||| y = x := by rw [h, or_0]
theorem r_var_inh (hw : Tw T) (rs : RS T G σ) {σ' : mS} {into ar e v : Nat} (b : rW into e σ σ') (har : ar < 3) (hin : into < 3) (he : e < Tn T) (hv : v < 3) (tr : Bool) {k6 : Int32 → Int32 → Int32 → Int32 → Int32 → Int32 → mS → Option mS} {t x7 m : Int32} : f_variables_121 k6 (nI e) (nI ar) (nI into) t (nI v) x7 (nI (3 * (30 * into + e) + v)) ((3 : Int32) * ((30 : Int32) * nI ar + qqO (Tsp T e)) + nI v) 1 m 0 σ' = k6 (nI e) (nI ar) (nI into) t m (nI (v + 1)) (up (up σ' 44 (3 * (30 * into + e) + v) (vIn (qiV (rI T G σ ar e tr)) v).1) 45 (3 * (30 * into + e) + v) (vIn (qiV (rI T G σ ar e tr)) v).2) := by
  have h30 := hw.n30
  have rs' := rs.W b
  have hix : 3 * (30 * into + e) + v < 270 := by omega
  unfold f_variables_121
  rw [if_neg (by decide), rs'.sp hw he, qqx, or_0]
  cases hs : Tsp T e with
  | none =>
    rw [if_neg (show ¬ 0 ≤ qqO none by decide)]
    unfold f_variables_181
    rw [wr_44 hix, qqx, if_neg (by decide), rd_77' (σ := σ') (up_o (by decide)), rs'.sp hw he, hs, qqx, if_neg (show ¬ 0 ≤ qqO none by decide)]
    unfold f_variables_249
    rw [wr_45 hix, qqx, vIn_rI, hs, nI_1]
  | some y =>
    have hy := Tsp_cases hw hs
    have hne : y ≠ e := fun z => by have := Tsp_m hw hs; rw [z] at this; omega
    rw [if_pos (show 0 ≤ qqO (some y) from nI_pos' (by omega)), qqO_some, ix3, nI_add, rd_44 (by omega), qqx]
    unfold f_variables_181
    rw [wr_44 hix, qqx, if_neg (by decide), rd_77' (σ := σ') (up_o (by decide)), rs'.sp hw he, hs, qqx, if_pos (show 0 ≤ qqO (some y) from nI_pos' (by omega)), rd_45 (by omega), qqx, up_o (by decide)]
    unfold f_variables_249
    rw [wr_45 hix, qqx, vIn_rI, hs, nI_1, (b.2.2.2.1 (3 * (30 * ar + y) + v) (by omega)).1, (b.2.2.2.1 (3 * (30 * ar + y) + v) (by omega)).2]
theorem r_var_own (hw : Tw T) {σ' : mS} {into e v a : Nat} (b : rW into e σ σ') (hin : into < 3) (he : e < Tn T) (hv : v < 3) (ha : a < 70) {P : Option (Nat → qP)} (hn8 : ¬ (σ.1 37 (16 * a + (12 + v)) = 8 ∨ σ.1 37 (16 * a + (12 + v)) = 9)) (hok : rOK σ (12 + v) a) {k6 : Int32 → Int32 → Int32 → Int32 → Int32 → Int32 → mS → Option mS} {t ar x9 m y1 : Int32} : f_variables_121 k6 (nI e) ar (nI into) t (nI v) (nI (16 * a + (12 + v))) (nI (3 * (30 * into + e) + v)) x9 0 m y1 σ' = k6 (nI e) ar (nI into) t (m ||| y1) (nI (v + 1)) (up (up σ' 44 (3 * (30 * into + e) + v) (vBa σ P v (some a)).1) 45 (3 * (30 * into + e) + v) (vBa σ P v (some a)).2) := by
  have h30 := hw.n30
  have hix : 3 * (30 * into + e) + v < 270 := by omega
  obtain ⟨u, hu, hu2, -⟩ := hok
  unfold f_variables_121
  rw [if_pos rfl, rd_37 (by omega), qqx, b.o (f := 37)]
  have e1 : vBa σ P v (some a) = if σ.1 37 (16 * a + (12 + v)) ≤ 6 then (σ.1 37 (16 * a + (12 + v)), if σ.1 37 (16 * a + (12 + v)) = 6 then 0 else σ.1 38 (16 * a + (12 + v))) else (-1, 0) := if_neg hn8
  rw [e1]
  by_cases c : σ.1 37 (16 * a + (12 + v)) ≤ 6
  · rw [if_pos c, if_pos c, qqx]
    unfold f_variables_181
    rw [wr_44 hix, qqx, if_pos rfl, rd_44 hix, qqx, up_ss]
    have : ¬ σ.1 37 (16 * a + (12 + v)) < 0 := by rw [hu2]; exact nI_pos (by omega)
    rw [if_neg this, qqx]
    by_cases c6 : σ.1 37 (16 * a + (12 + v)) = 6
    · rw [if_pos c6, if_pos c6]
      unfold f_variables_238 f_variables_249
      rw [wr_45 hix, qqx, nI_1]
    · rw [if_neg c6, if_neg c6, rd_38 (by omega), qqx, up_o (by decide), b.o (f := 38)]
      unfold f_variables_249
      rw [wr_45 hix, qqx, nI_1]
  · rw [if_neg c, if_neg c]
    unfold f_variables_181
    rw [wr_44 hix, qqx, if_pos rfl, rd_44 hix, qqx, up_ss, if_pos (by decide)]
    unfold f_variables_238 f_variables_249
    rw [wr_45 hix, qqx, nI_1]
def vMk (σ : mS) (R : Nat → Option Nat) : Nat → Int32 := qqM (fun v => vNd σ v (R (12 + v)))
theorem vMk_s (σ : mS) (R : Nat → Option Nat) (v : Nat) : vMk σ R (v + 1) = vMk σ R v ||| (if vNd σ v (R (12 + v)) = true then (1 : Int32) <<< (nI v &&& 31) else 0) := rfl
theorem vrW_up {σ' : mS} {at0 k : Nat} {f : Nat → qP} (h : vrW σ' at0 k f) : vrW (up (up σ' 44 (at0 + k) (f k).1) 45 (at0 + k) (f k).2) at0 (k + 1) f := by
  intro v hv
  by_cases hk : v = k
  · subst hk
    rw [up_o (by decide), up_ss, up_ss]
    exact ⟨rfl, rfl⟩
  · rw [up_o (by decide), up_sn (by omega), up_sn (by omega), up_o (by decide)]
    exact h v (by omega)
theorem r_vars_6 (hw : Tw T) (rs : RS T G σ) {into ar e : Nat} (har : ar < 3) (hin : into < 3) (he : e < Tn T) (tr : Bool) (hok : ∀ v, v < 3 → ∀ a, (rI T G σ ar e tr).1 (12 + v) = some a → rOK σ (12 + v) a) : ∀ d m v σ1, v + d = 3 → d < m → rW into e σ σ1 → vrW σ1 (3 * (30 * into + e)) v (fun v => vBa σ (qiV (rI T G σ ar e tr)) v ((rI T G σ ar e tr).1 (12 + v))) → ∃ σ2, f_variables_6 m (nI e) (nI ar) (nI into) (b2 tr) (vMk σ (rI T G σ ar e tr).1 v) (nI v) σ1 = f_variables_259 4000 (nI e) (nI ar) (nI into) (b2 tr) (vMk σ (rI T G σ ar e tr).1 3) (nI 0) σ2 ∧ rW into e σ σ2 ∧ vrW σ2 (3 * (30 * into + e)) 3 (fun v => vBa σ (qiV (rI T G σ ar e tr)) v ((rI T G σ ar e tr).1 (12 + v))) := by
  have h30 := hw.n30
  generalize hI : rI T G σ ar e tr = I at hok ⊢
  have hIf : ∀ p, I.1 p = Lfnd T G σ (if tr then none else hsz T σ ar e) e p := fun p => by rw [← hI]; rfl
  intro d
  induction d with
  | zero =>
    intro m v σ1 hv hm b h
    obtain ⟨m, rfl⟩ : ∃ m', m = m' + 1 := ⟨m - 1, by omega⟩
    have hv : v = 3 := by omega
    subst hv
    rw [f_variables_6, if_pos (by decide)]
    exact ⟨σ1, rfl, b, h⟩
  | succ d ih =>
    intro m v σ1 hv hm b h
    obtain ⟨m, rfl⟩ : ∃ m', m = m' + 1 := ⟨m - 1, by omega⟩
    have hv3 : v < 3 := by omega
    have rs1 := rs.W b
    have go : ∀ x5, x5 = vMk σ I.1 (v + 1) → ∃ σ2, f_variables_6 m (nI e) (nI ar) (nI into) (b2 tr) x5 (nI (v + 1)) (up (up σ1 44 (3 * (30 * into + e) + v) (vBa σ (qiV I) v (I.1 (12 + v))).1) 45 (3 * (30 * into + e) + v) (vBa σ (qiV I) v (I.1 (12 + v))).2) = f_variables_259 4000 (nI e) (nI ar) (nI into) (b2 tr) (vMk σ I.1 3) (nI 0) σ2 ∧ rW into e σ σ2 ∧ vrW σ2 (3 * (30 * into + e)) 3 (fun v => vBa σ (qiV I) v (I.1 (12 + v))) := by
      intro x5 hx5
      rw [hx5]
      exact ih m (v + 1) _ (by omega) (by omega) ((b.w44 (by omega)).w45 (by omega)) (vrW_up (f := fun v => vBa σ (qiV I) v (I.1 (12 + v))) h)
    have hinh : ∀ x7, (vBa σ (qiV I) v (I.1 (12 + v)) = vIn (qiV I) v) → vNd σ v (I.1 (12 + v)) = false → ∃ σ2, f_variables_121 (f_variables_6 m) (nI e) (nI ar) (nI into) (b2 tr) (nI v) x7 (nI (3 * (30 * into + e) + v)) ((3 : Int32) * ((30 : Int32) * nI ar + qqO (Tsp T e)) + nI v) 1 (vMk σ I.1 v) 0 σ1 = f_variables_259 4000 (nI e) (nI ar) (nI into) (b2 tr) (vMk σ I.1 3) (nI 0) σ2 ∧ rW into e σ σ2 ∧ vrW σ2 (3 * (30 * into + e)) 3 (fun v => vBa σ (qiV I) v (I.1 (12 + v))) := by
      intro x7 h1 h2
      rw [r_var_inh hw rs b har hin he hv3 tr, hI, ← h1]
      exact go _ (by rw [vMk_s, h2, if_neg (by decide), or_0])
    rw [f_variables_6, if_neg (ge3 hv3), show (12 : Int32) = nI 12 from rfl, nI_add, r_foundW hw rs b har he (by omega) tr, hI, qqx, rs1.sp hw he, qqx, ix3, nI_add]
    cases hR : I.1 (12 + v) with
    | none =>
      rw [if_pos (show rwc (12 + v) none < 0 from (by decide : (-1 : Int32) < 0))]
      unfold f_variables_87 f_variables_92
      rw [if_pos (show rwc (12 + v) none < 0 from (by decide : (-1 : Int32) < 0))]
      unfold f_variables_120
      exact hinh _ (by rw [hR]; rfl) (by rw [hR]; rfl)
    | some a =>
      have hvr := Lfnd_vr rs.2.1 he ((hIf _).symm.trans hR)
      have ha70 := hvr.1.lt hw rs.2.1
      have hoka := hok v hv3 a hR
      obtain ⟨u, hu, hu2, -, -, hu4⟩ := hok v hv3 a hR
      have e37 : rd σ1 37 (rwc (12 + v) (some a)) = some (σ.1 37 (16 * a + (12 + v))) := by
        show rd σ1 37 (nI (16 * a + (12 + v))) = _
        rw [rd_37 (by omega), b.o (f := 37)]
      rw [if_neg (show ¬ rwc (12 + v) (some a) < 0 from nI_pos (by omega)), e37, qqx, qqx]
      have h87 : (σ.1 37 (16 * a + (12 + v)) = 8 ∨ σ.1 37 (16 * a + (12 + v)) = 9) → ∃ σ2, f_variables_87 (f_variables_6 m) (nI e) (nI ar) (nI into) (b2 tr) (vMk σ I.1 v) (nI v) (rwc (12 + v) (some a)) (nI (3 * (30 * into + e) + v)) ((3 : Int32) * ((30 : Int32) * nI ar + qqO (Tsp T e)) + nI v) σ1 = f_variables_259 4000 (nI e) (nI ar) (nI into) (b2 tr) (vMk σ I.1 3) (nI 0) σ2 ∧ rW into e σ σ2 ∧ vrW σ2 (3 * (30 * into + e)) 3 (fun v => vBa σ (qiV I) v (I.1 (12 + v))) := by
        intro h89
        unfold f_variables_87 f_variables_92
        rw [if_neg (show ¬ rwc (12 + v) (some a) < 0 from nI_pos (by omega)), e37, qqx, if_neg (show ¬ σ.1 37 (16 * a + (12 + v)) = 11 from by rcases h89 with z | z <;> rw [z] <;> decide)]
        unfold f_variables_120
        refine hinh _ (by rw [hR]; exact if_pos h89) ?_
        rw [hR]
        exact decide_eq_false (by rcases h89 with z | z <;> rw [z] <;> decide)
      by_cases c8 : σ.1 37 (16 * a + (12 + v)) = 8
      · rw [if_pos c8]; exact h87 (Or.inl c8)
      · rw [if_neg c8]
        by_cases c9 : σ.1 37 (16 * a + (12 + v)) = 9
        · rw [if_pos c9]; exact h87 (Or.inr c9)
        · rw [if_neg c9]
          unfold f_variables_92
          rw [if_neg (show ¬ rwc (12 + v) (some a) < 0 from nI_pos (by omega)), e37, qqx]
          have hn8 : ¬ (σ.1 37 (16 * a + (12 + v)) = 8 ∨ σ.1 37 (16 * a + (12 + v)) = 9) := fun z => z.elim c8 c9
          have own : ∀ y1, vMk σ I.1 v ||| y1 = vMk σ I.1 (v + 1) → ∃ σ2, f_variables_121 (f_variables_6 m) (nI e) (nI ar) (nI into) (b2 tr) (nI v) (rwc (12 + v) (some a)) (nI (3 * (30 * into + e) + v)) ((3 : Int32) * ((30 : Int32) * nI ar + qqO (Tsp T e)) + nI v) 0 (vMk σ I.1 v) y1 σ1 = f_variables_259 4000 (nI e) (nI ar) (nI into) (b2 tr) (vMk σ I.1 3) (nI 0) σ2 ∧ rW into e σ σ2 ∧ vrW σ2 (3 * (30 * into + e)) 3 (fun v => vBa σ (qiV I) v (I.1 (12 + v))) := by
            intro y1 hy1
            have := go _ hy1
            rw [hR] at this
            refine Exists.elim this (fun σ2 h2 => ⟨σ2, ?_, h2.2⟩)
            rw [← h2.1]
            exact r_var_own hw b hin he hv3 ha70 hn8 hoka
          by_cases c11 : σ.1 37 (16 * a + (12 + v)) = 11
          · rw [if_pos c11]
            exact own _ (by rw [vMk_s, hR, if_pos (show vNd σ v (some a) = true from decide_eq_true c11)])
          · rw [if_neg c11]
            unfold f_variables_120
            exact own _ (by rw [vMk_s, hR, if_neg (show ¬ vNd σ v (some a) = true from by rw [show vNd σ v (some a) = false from decide_eq_false c11]; decide)])
end RV
