def skd (an : Bool) : Nat := if an then 39 else 6
def sar (an : Bool) : Nat := if an then 1 else 0
theorem sar_3 (an : Bool) : sar an < 2 := by cases an <;> decide
def KV (T : qqT) (K : kS) : Prop := ∀ e, e < Tn T → K.2 6 e 0 = some (7, e) ∧ K.2 6 e 5 = some (8, e) ∧ K.2 6 e 6 = some (9, e)
def rPr (σ : mS) (ar e v : Nat) : qP := (σ.1 44 (3 * (30 * ar + e) + v), σ.1 45 (3 * (30 * ar + e) + v))
def vEqv (K : kS) (σ : mS) (an : Bool) (e : Nat) : Prop := (∀ p, p < 12 → K.1 (skd an + 1) e p = σ.1 43 (12 * (30 * sar an + e) + p)) ∧ (∀ v, v < 3 → okP (rPr σ (sar an) e v) ∧ K.1 (skd an + 1) e (12 + v) = cod (rPr σ (sar an) e v)) ∧ (0 < σ.1 43 (12 * (30 * sar an + e) + 6) → K.1 (skd an) e 2 = σ.1 46 (30 * sar an + e))
def kAnc (T : qqT) (K : kS) (σ : mS) (an : Bool) (e : Nat) : Prop := ∀ x, TB T x e = true → vEqv K σ an x
def RDv (T : qqT) (G : qqG) (σ : mS) : Prop := ∀ a, VR T G a → ∀ p, p < 15 → Ldc σ p a = true → rOK σ p a
section CST
variable {T : qqT} {G : qqG} {A : kA} {ex : Nat → Nat → Prop} {K K' : kS} {S : cS} {σ : mS}
theorem TB_sp (hw : Tw T) {e y : Nat} (he : e < Tn T) (hy : Tsp T e = some y) : TB T y e = true ∧ ∀ x, TB T x y = true → TB T x e = true := by
  refine ⟨?_, fun x hx => ?_⟩
  · rw [TB_eq hw he, hy]; simp
  · rw [TB_eq hw he, hy]; simp [hx]
theorem TB_0 (hw : Tw T) : ∀ e, e < Tn T → TD T e = true → e ≠ 0 → TB T 0 e = true := by
  intro e
  refine qqInd (st := Tsp T) (μ := fun e => (TC T e).1) (P := fun e => e < Tn T → TD T e = true → e ≠ 0 → TB T 0 e = true) ?_ e
  intro e ih he hd h0
  rw [TB_eq hw he]
  cases hs : Tsp T e with
  | none => exact absurd (TD_top hw he hd hs) h0
  | some y =>
    have hy := (Tsp_cases hw hs).2.1
    by_cases hy0 : y = 0
    · subst hy0; simp
    · have := ih y hs (Tsp_m hw hs) hy (by rw [← Tsp_D hw hs]; exact hd) hy0
      simp [this]
theorem TB_n (hw : Tw T) {x : Nat} : ∀ e, e < Tn T → TB T x e = true → x < Tn T ∧ (TC T x).1 < (TC T e).1 := by
  intro e
  refine qqInd (st := Tsp T) (μ := fun e => (TC T e).1) (P := fun e => e < Tn T → TB T x e = true → x < Tn T ∧ (TC T x).1 < (TC T e).1) ?_ e
  intro e ih he hb
  rw [TB_eq hw he] at hb
  cases hs : Tsp T e with
  | none => rw [hs] at hb; cases hb
  | some y =>
    rw [hs] at hb
    have hy := (Tsp_cases hw hs).2.1
    have hm := Tsp_m hw hs
    by_cases hyx : y = x
    · subst hyx; exact ⟨hy, hm⟩
    · have : (y == x) = false := by simpa using hyx
      simp only [this, Bool.false_or] at hb
      have := ih y hs hm hy hb
      exact ⟨this.1, by omega⟩
theorem kAnc.up (hw : Tw T) {an : Bool} {e y : Nat} (k : kAnc T K σ an e) (he : e < Tn T) (hy : Tsp T e = some y) : vEqv K σ an y ∧ kAnc T K σ an y := ⟨k y (TB_sp hw he hy).1, fun x hx => k x ((TB_sp hw he hy).2 x hx)⟩
theorem c_isBelow (x n : Int32) : f_X11_isBelow x n = some (b2 (decide (0 ≤ x ∧ x < n))) := by
  unfold f_X11_isBelow f_X11_isBelow_13 f_X11_isBelow_14
  by_cases h1 : x < 0
  · rw [if_pos h1, decide_eq_false (fun z => absurd h1 (Int32.not_lt.mpr z.1))]; rfl
  · rw [if_neg h1]
    by_cases h2 : n ≤ x
    · rw [if_pos h2, decide_eq_false (fun z => absurd z.2 (Int32.not_lt.mpr h2))]; rfl
    · rw [if_neg h2, decide_eq_true ⟨Int32.not_lt.mp h1, Int32.not_le.mp h2⟩]; rfl
theorem kSt_of (hw : Tw T) (t : KT T ex K) (p9 : KP ex K) (kv : KV T K) (an : Bool) {e : Nat} (he : e < Tn T) : kSt ex K (skd an) e := by
  have h30 := hw.n30
  cases an with
  | false => exact ⟨t.E he (by decide), t.E he (by decide), rfl, rfl, by decide, by decide, (kv e he).1⟩
  | true => exact ⟨p9.1.2.2.2.2.1 e 39 (by omega) (by decide) (by decide), p9.1.2.2.2.2.1 e 40 (by omega) (by decide) (by decide), rfl, rfl, by decide, by decide, (p9.2.2.2.2.2.1 e (by omega)).2.1⟩
theorem c_styleOf (hw : Tw T) (t : KT T ex K) (p9 : KP ex K) (h : KA A ex K S) (an : Bool) {e : Nat} (he : e < Tn T) : f_X11_styleOf (A 49 0) (some (A 0 e)) (b2 an) S = some (some (A (skd an) e)) := by
  have h30 := hw.n30
  unfold f_X11_styleOf f_X11_styleOf_28 f_X11_styleOf_32
  rw [b2_i0]
  cases an with
  | false => rw [if_neg (by decide), t.g19 h he, qqx]; rfl
  | true =>
    rw [if_pos rfl, t.gn h he, qqx, c_isBelow, decide_eq_true (show (0 : Int32) ≤ nI e ∧ nI e < 30 from ⟨nI_pos' (by omega), nI_lt (b := 30) (by omega) (by decide)⟩), qqx, if_neg (by decide), h.R 49 11 (p9.x (by decide) (by decide) (by decide)) rfl, p9.2.1.2.2.2.2.2.1, qqx, qqx]
    show ((aR S (some (A 64 0)) 39 (nI e)).bind _) = _
    rw [h.AR 64 39 30 (p9.x (by decide) (by decide) (by decide)) rfl (by omega), (p9.2.2.2.2.2.1 e (by omega)).1, qqx]
    rfl
theorem KL.k16 (l : KL T K) : K16 T K := fun e he => (l.1 e he).2.2.1
theorem c_holderOf_5 (hw : Tw T) (t : KT T ex K) (p9 : KP ex K) (kv : KV T K) (l : KL T K) (h : KA A ex K S) (an : Bool) {ν : Nat → Nat} (hν : ∀ e y, e < Tn T → Tsp T e = some y → ν y < ν e) : ∀ m y, y < Tn T → ν y + 1 < m → vEqv K σ an y → kAnc T K σ an y → f_X11_holderOf_5 (A 49 0) m (b2 an) (some (A 0 y)) S = some ((if Hv σ (sar an) y = true then some y else Tho T (Hv σ (sar an)) y).map (A (skd an))) := by
  intro m
  induction m with
  | zero => intro y _ hm; omega
  | succ m ih =>
    intro y hy hm hv ha
    have st := kSt_of hw t p9 kv an hy
    rw [f_X11_holderOf_5, if_neg (fun z => by cases z), p9.r11 h, qqx, c_styleOf hw t p9 h an hy, qqx, st.v h, qqx, show (6 : Int32) = nI 6 from rfl, st.a h (by decide), qqx, hv.1 6 (by decide)]
    by_cases c : 0 < σ.1 43 (12 * (30 * sar an + y) + 6)
    · rw [if_neg (Int32.not_le.mpr c), if_pos (show Hv σ (sar an) y = true from decide_eq_true c)]
      rfl
    · rw [if_pos (Int32.not_lt.mp c), if_neg (show ¬ Hv σ (sar an) y = true by unfold Hv; rw [decide_eq_false c]; decide), g16 t h l.k16 hy, qqx, Tho_eq hw _ hy]
      cases hs : Tsp T y with
      | some z =>
        have := hν y z hy hs
        have hz := ha.up hw hy hs
        exact ih z (Tsp_cases hw hs).2.1 (by omega) hz.1 hz.2
      | none =>
        obtain ⟨m, rfl⟩ : ∃ m', m = m' + 1 := ⟨m - 1, by omega⟩
        rw [f_X11_holderOf_5, if_pos (el_none A)]
        rfl
theorem c_holderOf (hw : Tw T) (t : KT T ex K) (p9 : KP ex K) (kv : KV T K) (l : KL T K) (h : KA A ex K S) (an : Bool) {e : Nat} (he : e < Tn T) (ha : kAnc T K σ an e) : f_X11_holderOf (A 49 0) (some (A 0 e)) (b2 an) S = some ((Tho T (Hv σ (sar an)) e).map (A (skd an))) := by
  obtain ⟨ν, h1, h2⟩ := Tsp_rk hw
  unfold f_X11_holderOf
  rw [g16 t h l.k16 he, qqx, Tho_eq hw _ he]
  cases hs : Tsp T e with
  | some z =>
    have hz := ha.up hw he hs
    exact c_holderOf_5 hw t p9 kv l h an h2 4000 z (Tsp_cases hw hs).2.1 (by have := h1 z (Tsp_cases hw hs).2.1; omega) hz.1 hz.2
  | none =>
    rw [show (4000 : Nat) = 3999 + 1 from rfl, f_X11_holderOf_5, if_pos (el_none A)]
    rfl
def KX (T : qqT) (G : qqG) (A : kA) (ex : Nat → Nat → Prop) (K : kS) (σ : mS) : Prop := KW T G ex K σ ∧ KV T K ∧ kIn A ex K ∧ RDv T G σ
theorem KX.va (x : KX T G A ex K σ) (b : kB qOI qOR K K') : KX T G A ex K' σ := ⟨x.1.va b, fun e he => by
  rw [b.2 6 e 0 (by unfold qOR; omega), b.2 6 e 5 (by unfold qOR; omega), b.2 6 e 6 (by unfold qOR; omega)]
  exact x.2.1 e he, x.2.2.1.keep b (fun q z => by unfold qOI at z; omega), x.2.2.2⟩
theorem KX.so (x : KX T G A ex K σ) (hw : Tw T) {o : Option Int32} {e : Nat} (he : e < Tn T) (hs : ∀ q, q < 15 → K.2 61 0 q = bko (Lfnd T G σ o e q)) : kSo ex K σ (fun p => Lfnd T G σ o e p) := ⟨x.1.2.2.1.x (by decide) (by decide) (by decide), fun p hp => ⟨hs p hp, fun a ha => by
  obtain ⟨h1, h2, h3⟩ := Lfnd_vr x.1.1 he ha
  exact ⟨x.1.rw h1, x.2.2.2 a h1 p hp h2, h2, h3⟩⟩⟩
theorem KX.w50 (x : KX T G A ex K σ) (h : KA A ex K S) : gI S (some (A 58 0)) 1 8 = some (σ.2 50) := by rw [x.1.2.2.1.I58 h, x.1.2.2.2.2.1.2.2.2.1.2.2.1]
theorem KX.st (x : KX T G A ex K σ) (hw : Tw T) (an : Bool) {e : Nat} (he : e < Tn T) : kSt ex K (skd an) e := kSt_of hw x.1.2.1 x.1.2.2.1 x.2.1 an he
theorem KX.so13 (x : KX T G A ex K σ) (h : KA A ex K S) : gR S (some (A 58 0)) 1 13 = some (some (A 61 0)) := by rw [h.R 58 1 (x.1.2.2.1.x (by decide) (by decide) (by decide)) rfl, x.1.2.2.1.2.2.2.1.2.2.2.2]; rfl
theorem vEqv.keep {an : Bool} {e : Nat} (v : vEqv K σ an e) (h1 : ∀ p, K'.1 (skd an + 1) e p = K.1 (skd an + 1) e p) (h2 : K'.1 (skd an) e 2 = K.1 (skd an) e 2) : vEqv K' σ an e := by
  unfold vEqv at v ⊢
  rw [h2]
  exact ⟨fun p hp => by rw [h1]; exact v.1 p hp, fun w hw => by rw [h1]; exact v.2.1 w hw, v.2.2⟩
theorem kAo_of (hw : Tw T) (x : KX T G A ex K σ) (an : Bool) (tr : Bool) {e d i : Nat} (he : e < Tn T) (ha : ∀ y, Tsp T e = some y → vEqv K σ an y) (hne : ∀ y, Tsp T e = some y → skd an ≠ d ∨ y ≠ i) : kAo ex K d i (rI T G σ (sar an) e tr) ((Tsp T e).map (fun y => (skd an, y))) ∧ ∀ f, qiV (rI T G σ (sar an) e tr) = some f → ∀ v, v < 3 → okP (f v) := by
  unfold kAo qiV rI
  cases hs : Tsp T e with
  | none => exact ⟨rfl, fun f hf => by cases hf⟩
  | some y =>
    have hy := (Tsp_cases hw hs).2.1
    have hv := ha y hs
    refine ⟨⟨skd an, y, rfl, x.st hw an hy, hne y hs, fun p hp => hv.1 p hp, fun v hv3 => (hv.2.1 v hv3).2⟩, fun f hf v hv3 => ?_⟩
    cases hf
    exact (hv.2.1 v hv3).1
theorem hsz_ho (hw : Tw T) (x : KX T G A ex K σ) (h : KA A ex K S) (an : Bool) {e : Nat} (he : e < Tn T) (ha : kAnc T K σ an e) : kHo ex K (hsz T σ (sar an) e) ((Tho T (Hv σ (sar an)) e).map (fun y => (skd an, y))) := by
  unfold kHo hsz
  cases hq : Tho T (Hv σ (sar an)) e with
  | none => rfl
  | some y =>
    have hy := Tho_lt hw e he hq
    have hb : TB T y e = true := by
      have : ∀ e, e < Tn T → Tho T (Hv σ (sar an)) e = some y → TB T y e = true := by
        intro e
        refine qqInd (st := Tsp T) (μ := fun e => (TC T e).1) (P := fun e => e < Tn T → Tho T (Hv σ (sar an)) e = some y → TB T y e = true) ?_ e
        intro e ih he hq
        rw [Tho_eq hw _ he] at hq
        cases hs : Tsp T e with
        | none => rw [hs] at hq; cases hq
        | some z =>
          rw [hs] at hq
          have hq : (if Hv σ (sar an) z = true then some z else Tho T (Hv σ (sar an)) z) = some y := hq
          by_cases c : Hv σ (sar an) z = true
          · rw [if_pos c] at hq; cases hq; exact (TB_sp hw he hs).1
          · rw [if_neg c] at hq
            exact (TB_sp hw he hs).2 y (ih z hs (Tsp_m hw hs) (Tsp_cases hw hs).2.1 hq)
      exact this e he hq
    have st := x.st hw an hy.1
    exact ⟨skd an, y, rfl, st.1, st.2.2.1, (ha y hb).2.2 (of_decide_eq_true hy.2)⟩
theorem c_findStyle (hw : Tw T) (x : KX T G A ex K σ) (h : KA A ex K S) (an : Bool) {e d i : Nat} (he : e < Tn T) (hd9 : TD T e = true) (ha : kAnc T K σ an e) (st : kSt ex K d i) (nr : kNr d) (hne : ∀ y, TB T y e = true → skd an ≠ d ∨ y ≠ i) : ∃ S' K', f_X11_findStyle (A 49 0) (some (A d i)) (some (A 0 e)) (b2 an) S = some S' ∧ KA A ex K' S' ∧ kVl K' σ (rI T G σ (sar an) e false) d i 15 ∧ kB (FI d i) (fun k y j => SR k y j ∨ FR d i k y j) K K' := by
  have t := x.1.2.1
  have p9 := x.1.2.2.1
  have l := x.1.2.2.2.1
  have h30 := hw.n30
  have hho := hsz_ho hw x h an he ha
  have hIo : (rI T G σ (sar an) e false).2.2.2 = hsz T σ (sar an) e := rfl
  have key : ∃ S' K', f_X11_findStyle_28 (A 49 0) (some (A d i)) (some (A 0 e)) (b2 an) ((Tho T (Hv σ (sar an)) e).map (A (skd an))) (((Tsp T e).map (fun y => (skd an, y))).map (kp A)) S = some S' ∧ KA A ex K' S' ∧ kVl K' σ (rI T G σ (sar an) e false) d i 15 ∧ kB (FI d i) (fun k y j => SR k y j ∨ FR d i k y j) K K' := by
    have em : (Tho T (Hv σ (sar an)) e).map (A (skd an)) = ((Tho T (Hv σ (sar an)) e).map (fun y => (skd an, y))).map (kp A) := by
      cases Tho T (Hv σ (sar an)) e <;> rfl
    unfold f_X11_findStyle_28
    rw [p9.cascade h, qqx, p9.r1 h, qqx]
    obtain ⟨S1, K1, e1, h1, q1, b1⟩ := c_gather (G := G) hw he h x.1 (hh := (Tho T (Hv σ (sar an)) e).map (A (skd an))) (o := hsz T σ (sar an) e) (by
      rw [em]
      rcases hho.g h with ⟨g1, g2⟩ | ⟨z, y, g1, g2, g3⟩
      · rw [g2]; exact g1
      · rw [g2]; exact g3.trans g1.symm) (by
      unfold hsz
      cases Tho T (Hv σ (sar an)) e <;> simp)
    have b1' : kB qOI qOR K K1 := b1.wd (fun _ _ _ z => z.elim) (fun k i j z => Or.inr z)
    have x1 := x.va b1'
    have o1 : K1.1 = K.1 := by
      funext k i j
      exact b1.1 k i j (fun z => z)
    have t1 := x1.1.2.1
    have p1 := x1.1.2.2.1
    rw [e1, qqx, p1.cascade h1, qqx, x1.so13 h1, qqx, p1.trees h1, qqx, t1.top h1, qqx, p1.r11 h1, qqx, c_styleOf hw t1 p1 h1 an (by have := hw.n1; omega), qqx, qqx, x1.w50 h1, qqx]
    have st1 : kSt ex K1 d i := st.keep b1 (fun z => by have := nr.n; unfold SR at z; omega)
    rw [st1.rc h1, qqx]
    have ha1 : kAnc T K1 σ an e := fun y hy => (ha y hy).keep (fun p => by rw [o1]) (by rw [o1])
    obtain ⟨ao, hP⟩ := kAo_of (G := G) hw x1 an false (d := d) (i := i) he (fun y hy => (ha1.up hw he hy).1) (fun y hy => hne y (TB_sp hw he hy).1)
    have hho1 : kHo ex K1 (rI T G σ (sar an) e false).2.2.2 ((Tho T (Hv σ (sar an)) e).map (fun y => (skd an, y))) := hsz_ho hw x1 h1 an he ha1
    have so1 : kSo ex K1 σ (rI T G σ (sar an) e false).1 := x1.so hw he q1
    have top1 := x1.st hw an (e := 0) (by have := hw.n1; omega)
    obtain ⟨S2, K2, e2, h2, f2, v2, b2⟩ := c_findFrom (I := rI T G σ (sar an) e false) h1 (kt := skd an) (it := 0) ⟨st1, nr, x1.2.2.1, so1, hP, fun q hq a haq => (Lfnd_vr x1.1.1 he haq).1.lt hw x1.1.1, ao, hho1, top1, fun hn => by
      have hne0 : e ≠ 0 := fun z => hn (by
        show (Tsp T e).map _ = none
        rw [z, Tsp_0 hw]
        rfl)
      have hv := ha1 0 (TB_0 hw e he hd9 hne0)
      have h43 := hv.1 1 (by decide)
      rw [h43]
      show σ.1 43 (12 * (30 * sar an + 0) + 1) = σ.1 43 (360 * sar an + 1)
      exact congrArg (σ.1 43) (by omega)⟩
    rw [em, e2, qqx]
    exact ⟨S2, K2, rfl, h2, v2, (b1.wd (fun _ _ _ z => z.elim) (fun _ _ _ z => Or.inl z)).tr (b2.wd (fun _ _ _ z => z) (fun _ _ _ z => Or.inr z))⟩
  unfold f_X11_findStyle
  rw [p9.r11 h, qqx, c_holderOf hw t p9 x.2.1 l h an he ha, qqx, g16 t h l.k16 he, qqx]
  cases hs : Tsp T e with
  | none =>
    rw [if_pos (el_none A)]
    rw [hs] at key
    exact key
  | some y =>
    rw [hs] at key
    rw [if_neg (show ¬ el A (some y) = none from fun z => by cases z), qqx, qqx]
    show ∃ S' K', ((f_X11_styleOf (A 49 0) (some (A 0 y)) (b2 an) S).bind _) = some S' ∧ _
    rw [c_styleOf hw t p9 h an (Tsp_cases hw hs).2.1, qqx]
    exact key
end CST
