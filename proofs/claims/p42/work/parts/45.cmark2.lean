def KP (ex : Nat → Nat → Prop) (K : kS) : Prop :=
  ((∀ k, 49 ≤ k → k ≤ 65 → k ≠ 55 → ex k 0) ∧ (∀ t, t < 31 → ex 55 t) ∧ (∀ a, a < 4 → ex 34 a ∧ ex 35 a ∧ ex 37 a) ∧ (∀ q, q < 20 → ex 36 q) ∧ (∀ e k, e < 30 → 39 ≤ k → k ≤ 43 → ex k e) ∧ (∀ b k, b < 2 → 44 ≤ k → k ≤ 48 → ex k b)) ∧
  (K.2 49 0 0 = some (50, 0) ∧ K.2 49 0 1 = some (52, 0) ∧ K.2 49 0 2 = some (58, 0) ∧ K.2 49 0 3 = some (62, 0) ∧ K.2 49 0 4 = some (63, 0) ∧ K.2 49 0 7 = some (64, 0) ∧ K.2 49 0 8 = some (44, 0) ∧ K.2 49 0 9 = some (44, 1)) ∧
  (K.2 52 0 0 = some (50, 0) ∧ K.2 52 0 1 = some (53, 0) ∧ K.2 52 0 4 = some (54, 0) ∧ K.2 52 0 5 = some (56, 0) ∧ K.2 52 0 6 = some (57, 0) ∧ ∀ t, t < 31 → K.2 54 0 t = some (55, t)) ∧
  (K.2 58 0 0 = some (50, 0) ∧ K.2 58 0 1 = some (52, 0) ∧ K.2 58 0 2 = some (59, 0) ∧ K.2 58 0 3 = some (60, 0) ∧ K.2 58 0 13 = some (61, 0)) ∧
  (∀ a, a < 4 → K.2 62 0 a = some (34, a) ∧ K.2 34 a 3 = some (35, a) ∧ K.2 34 a 4 = some (37, a) ∧ ∀ p, p < 5 → K.2 35 a p = some (36, 5 * a + p)) ∧
  (∀ e, e < 30 → K.2 64 0 e = some (39, e) ∧ K.2 39 e 0 = some (40, e) ∧ K.2 39 e 5 = some (41, e) ∧ K.2 39 e 6 = some (42, e) ∧ K.2 39 e 7 = some (43, e)) ∧
  (∀ b, b < 2 → K.2 44 b 0 = some (45, b) ∧ K.2 44 b 5 = some (46, b) ∧ K.2 44 b 6 = some (47, b) ∧ K.2 44 b 7 = some (48, b))
def KPf (k _i j : Nat) : Prop := k = 49 ∨ (k = 52 ∧ j ≠ 3) ∨ k = 54 ∨ (k = 58 ∧ j ≠ 6 ∧ j ≠ 7) ∨ k = 62 ∨ k = 34 ∨ k = 35 ∨ k = 64 ∨ ((k = 39 ∨ k = 44) ∧ j ≠ 9)
theorem kwI_kwI (K : kS) (k i j : Nat) (v w : Int32) : kwI (kwI K k i j v) k i j w = kwI K k i j w := by
  refine Prod.ext (funext fun a => funext fun b => funext fun c => ?_) rfl
  show (if a = k ∧ b = i ∧ c = j then w else (if a = k ∧ b = i ∧ c = j then v else K.1 a b c)) = if a = k ∧ b = i ∧ c = j then w else K.1 a b c
  by_cases h : a = k ∧ b = i ∧ c = j
  · rw [if_pos h, if_pos h]
  · rw [if_neg h, if_neg h, if_neg h]
theorem kwI_id (K : kS) (k i j : Nat) : kwI K k i j (K.1 k i j) = K := by
  refine Prod.ext (funext fun a => funext fun b => funext fun c => ?_) rfl
  show (if a = k ∧ b = i ∧ c = j then K.1 k i j else K.1 a b c) = K.1 a b c
  by_cases h : a = k ∧ b = i ∧ c = j
  · rw [if_pos h, h.1, h.2.1, h.2.2]
  · rw [if_neg h]
section CN
variable {T : qqT} {A : kA} {ex : Nat → Nat → Prop} {K : kS} {S : cS}
theorem KP.keep {PI PR : Nat → Nat → Nat → Prop} {K' : kS} (p : KP ex K) (b : kB PI PR K K') (h : ∀ k i j, PR k i j → ¬ KPf k i j) : KP ex K' := by
  have e : ∀ k i j, KPf k i j → K'.2 k i j = K.2 k i j := fun k i j hf => b.2 k i j (fun z => h k i j z hf)
  obtain ⟨p1, p2, p3, p4, p5, p6, p7⟩ := p
  refine ⟨p1, ?_, ?_, ?_, ?_, ?_, ?_⟩
  · rw [e 49 0 0 (by simp [KPf]), e 49 0 1 (by simp [KPf]), e 49 0 2 (by simp [KPf]), e 49 0 3 (by simp [KPf]), e 49 0 4 (by simp [KPf]), e 49 0 7 (by simp [KPf]), e 49 0 8 (by simp [KPf]), e 49 0 9 (by simp [KPf])]; exact p2
  · rw [e 52 0 0 (by simp [KPf]), e 52 0 1 (by simp [KPf]), e 52 0 4 (by simp [KPf]), e 52 0 5 (by simp [KPf]), e 52 0 6 (by simp [KPf])]
    exact ⟨p3.1, p3.2.1, p3.2.2.1, p3.2.2.2.1, p3.2.2.2.2.1, fun t ht => by rw [e 54 0 t (by simp [KPf])]; exact p3.2.2.2.2.2 t ht⟩
  · rw [e 58 0 0 (by simp [KPf]), e 58 0 1 (by simp [KPf]), e 58 0 2 (by simp [KPf]), e 58 0 3 (by simp [KPf]), e 58 0 13 (by simp [KPf])]; exact p4
  · intro a ha
    rw [e 62 0 a (by simp [KPf]), e 34 a 3 (by simp [KPf]), e 34 a 4 (by simp [KPf])]
    exact ⟨(p5 a ha).1, (p5 a ha).2.1, (p5 a ha).2.2.1, fun q hq => by rw [e 35 a q (by simp [KPf])]; exact (p5 a ha).2.2.2 q hq⟩
  · intro a ha
    rw [e 64 0 a (by simp [KPf]), e 39 a 0 (by simp [KPf]), e 39 a 5 (by simp [KPf]), e 39 a 6 (by simp [KPf]), e 39 a 7 (by simp [KPf])]
    exact p6 a ha
  · intro a ha
    rw [e 44 a 0 (by simp [KPf]), e 44 a 5 (by simp [KPf]), e 44 a 6 (by simp [KPf]), e 44 a 7 (by simp [KPf])]
    exact p7 a ha
theorem KP.x (p : KP ex K) {k : Nat} (h1 : 49 ≤ k) (h2 : k ≤ 65) (h3 : k ≠ 55) : ex k 0 := p.1.1 k h1 h2 h3
theorem KP.trees (p : KP ex K) (h : KA A ex K S) : gR S (some (A 49 0)) 11 0 = some (some (A 50 0)) := by rw [h.R 49 11 (p.x (by decide) (by decide) (by decide)) rfl, p.2.1.1]; rfl
theorem KP.matcher (p : KP ex K) (h : KA A ex K S) : gR S (some (A 49 0)) 11 1 = some (some (A 52 0)) := by rw [h.R 49 11 (p.x (by decide) (by decide) (by decide)) rfl, p.2.1.2.1]; rfl
theorem KP.cascade (p : KP ex K) (h : KA A ex K S) : gR S (some (A 49 0)) 11 2 = some (some (A 58 0)) := by rw [h.R 49 11 (p.x (by decide) (by decide) (by decide)) rfl, p.2.1.2.2.1]; rfl
theorem KP.r11 (p : KP ex K) (h : KA A ex K S) : rc S (some (A 49 0)) 11 = some (A 49 0) := h.Rc 49 11 (p.x (by decide) (by decide) (by decide)) rfl
theorem KP.r5 (p : KP ex K) (h : KA A ex K S) : rc S (some (A 52 0)) 5 = some (A 52 0) := h.Rc 52 5 (p.x (by decide) (by decide) (by decide)) rfl
theorem KP.r1 (p : KP ex K) (h : KA A ex K S) : rc S (some (A 58 0)) 1 = some (A 58 0) := h.Rc 58 1 (p.x (by decide) (by decide) (by decide)) rfl
theorem KP.I49 (p : KP ex K) (h : KA A ex K S) (j : Nat) : gI S (some (A 49 0)) 11 j = some (K.1 49 0 j) := h.I 49 11 (p.x (by decide) (by decide) (by decide)) rfl
theorem KP.I58 (p : KP ex K) (h : KA A ex K S) (j : Nat) : gI S (some (A 58 0)) 1 j = some (K.1 58 0 j) := h.I 58 1 (p.x (by decide) (by decide) (by decide)) rfl
theorem KP.I50 (p : KP ex K) (h : KA A ex K S) (j : Nat) : gI S (some (A 50 0)) 10 j = some (K.1 50 0 j) := h.I 50 10 (p.x (by decide) (by decide) (by decide)) rfl
theorem KP.I52 (p : KP ex K) (h : KA A ex K S) (j : Nat) : gI S (some (A 52 0)) 5 j = some (K.1 52 0 j) := h.I 52 5 (p.x (by decide) (by decide) (by decide)) rfl
def CMk (T : qqT) (P : Nat → Bool) (K K' : kS) : Prop := ∃ v, K' = kwI K 49 0 10 v ∧ ∀ e, e < 32 → bt v e = (bt (K.1 49 0 10) e || dm T P e)
theorem CMk.rf : CMk T (fun _ => false) K K := ⟨K.1 49 0 10, (kwI_id K 49 0 10).symm, fun e _ => by simp [dm]⟩
theorem CMk.tr {P Q : Nat → Bool} {a b c : kS} (h : CMk T P a b) (k : CMk T Q b c) : CMk T (fun e => P e || Q e) a c := by
  obtain ⟨v, rfl, h2⟩ := h
  obtain ⟨w, rfl, k2⟩ := k
  refine ⟨w, kwI_kwI _ _ _ _ _ _, fun e he => ?_⟩
  rw [k2 e he, kwI_1, if_pos ⟨rfl, rfl, rfl⟩, h2 e he]
  show ((bt (a.1 49 0 10) e || dm T P e) || dm T Q e) = (bt (a.1 49 0 10) e || (decide (e < Tn T) && (TD T e && (P e || Q e))))
  unfold dm
  cases bt (a.1 49 0 10) e <;> cases decide (e < Tn T) <;> cases TD T e <;> cases P e <;> cases Q e <;> rfl
theorem CMk.cg {P Q : Nat → Bool} {a b : kS} (h : CMk T P a b) (k : ∀ e, e < Tn T → TD T e = true → P e = Q e) : CMk T Q a b := by
  obtain ⟨v, rfl, h2⟩ := h
  refine ⟨v, rfl, fun e he => ?_⟩
  rw [h2 e he]
  unfold dm
  by_cases h1 : e < Tn T
  · by_cases h3 : TD T e = true
    · rw [k e h1 h3]
    · simp [h3]
  · simp [h1]
def MI (k i j : Nat) : Prop := k = 49 ∧ i = 0 ∧ j = 10
theorem CMk.kB {P : Nat → Bool} {K' : kS} (h : CMk T P K K') : kB MI F3 K K' := by
  obtain ⟨v, rfl, -⟩ := h
  exact (kB.rf K).I ⟨rfl, rfl, rfl⟩
theorem CMk.kt {P : Nat → Bool} {K' : kS} (h : CMk T P K K') (t : KT T ex K) : KT T ex K' := t.keep h.kB (fun i => by simp [MI]) (fun i => by simp [F3])
theorem CMk.kp {P : Nat → Bool} {K' : kS} (h : CMk T P K K') (p : KP ex K) : KP ex K' := p.keep h.kB (fun _ _ _ z => z.elim)
theorem chS_kB {PI PR : Nat → Nat → Nat → Prop} {K' : kS} {L : List Nat} {a : Nat} (c : chS K a L) (b : kB PI PR K K') (h : ∀ i, ¬ PR 0 i 17) : chS K' a L := chS_cong c (fun z _ => b.2 0 z 17 (h z))
theorem KL.keep {PI PR : Nat → Nat → Nat → Prop} {K' : kS} (l : KL T K) (b : kB PI PR K K') (h1 : ∀ i, ¬ PI 0 i 14 ∧ ¬ PI 1 i 12 ∧ ¬ PI 50 i 2) (h2 : ∀ i, ¬ PR 0 i 15 ∧ ¬ PR 0 i 16 ∧ ¬ PR 0 i 17) : KL T K' := by
  refine ⟨fun e he => ?_, ?_, chS_kB l.2.2 b (fun i => (h2 i).2.2)⟩
  · rw [b.1 0 e 14 (h1 e).1, b.2 0 e 15 (h2 e).1, b.2 0 e 16 (h2 e).2.1, b.1 1 e 12 (h1 e).2.1]
    exact l.1 e he
  · rw [b.1 50 0 2 (h1 0).2.2]
    exact l.2.1
theorem KR.keep {PI PR : Nat → Nat → Nat → Prop} {K' : kS} (l : KR T K) (b : kB PI PR K K') (h2 : ∀ i, ¬ PR 0 i 17) : KR T K' := by
  obtain ⟨ρ, h⟩ := l
  exact ⟨ρ, fun e he => by rw [b.2 0 e 17 (h2 e)]; exact h e he⟩
theorem CMk.kl {P : Nat → Bool} {K' : kS} (h : CMk T P K K') (l : KL T K) : KL T K' := l.keep h.kB (fun i => by simp [MI]) (fun i => by simp [F3])
theorem CMk.kr {P : Nat → Bool} {K' : kS} (h : CMk T P K K') (l : KR T K) : KR T K' := l.keep h.kB (fun i => by simp [F3])
def KQ (T : qqT) (ex : Nat → Nat → Prop) (K : kS) : Prop := KT T ex K ∧ KP ex K ∧ KL T K ∧ KR T K
theorem CMk.kq {P : Nat → Bool} {K' : kS} (h : CMk T P K K') (q : KQ T ex K) : KQ T ex K' := ⟨h.kt q.1, h.kp q.2.1, h.kl q.2.2.1, h.kr q.2.2.2⟩
theorem c_mark (hw : Tw T) (h : KA A ex K S) (q : KQ T ex K) (x : Int32) : ∃ S' K', f_X11_mark (A 49 0) x S = some S' ∧ KA A ex K' S' ∧ CMk T (bt x) K K' := by
  obtain ⟨t, p, l, -⟩ := q
  unfold f_X11_mark
  rw [p.I49 h]
  simp only [qqb]
  rw [p.trees h]
  simp only [qqb]
  rw [p.I50 h]
  simp only [qqb]
  obtain ⟨S1, e1, h1⟩ := h.PI (k := 49) (i := 0) (j := 10) (t := 11) (p.x (by decide) (by decide) (by decide)) rfl (by decide) (K.1 49 0 10 ||| (x &&& K.1 50 0 2))
  rw [e1]
  refine ⟨S1, _, rfl, h1, _, rfl, fun e he => ?_⟩
  rw [b_or, b_and, l.2.1, qqM_bt _ _ (by have := hw.n30; omega) e he]
  unfold dm
  cases bt (K.1 49 0 10) e <;> cases bt x e <;> cases decide (e < Tn T) <;> cases TD T e <;> rfl
theorem c_markAll (hw : Tw T) (h : KA A ex K S) (q : KQ T ex K) : ∃ S' K', f_X11_markAll (A 49 0) S = some S' ∧ KA A ex K' S' ∧ CMk T (fun _ => true) K K' := by
  have h30 := hw.n30
  unfold f_X11_markAll
  rw [q.2.1.trees h]
  simp only [qqb]
  rw [q.2.1.I50 h]
  simp only [qqb]
  rw [q.2.1.r11 h]
  simp only [qqb]
  obtain ⟨S1, K1, e1, h1, b1⟩ := c_mark hw h q (K.1 50 0 2)
  rw [e1]
  refine ⟨S1, K1, rfl, h1, b1.cg (fun e he hd => ?_)⟩
  rw [q.2.2.1.2.1, qqM_bt _ _ (by omega) e (by omega)]
  simp [he, hd]
theorem c_markSlotted_23 (hw : Tw T) (h : KA A ex K S) (q : KQ T ex K) {t : Option Nat} (ht : ∀ x, t = some x → x < Tn T) : ∃ S' K', f_X11_markSlotted_23 (A 49 0) (el A t) S = some S' ∧ KA A ex K' S' ∧ CMk T (TBo T t) K K' := by
  unfold f_X11_markSlotted_23
  cases t with
  | none => rw [if_pos (el_none A)]; exact ⟨S, K, rfl, h, CMk.rf⟩
  | some x =>
    rw [if_neg (show ¬ el A (some x) = none from fun z => by cases z), q.2.1.trees h]
    simp only [qqb]
    rw [q.1.r10 h]
    simp only [qqb, el_some]
    obtain ⟨s, e0, hs⟩ := c_below hw q.1 h q.2.2.1 q.2.2.2 (ht x rfl)
    rw [e0]
    simp only [qqb]
    rw [q.2.1.r11 h]
    simp only [qqb]
    obtain ⟨S1, K1, e1, h1, b1⟩ := c_mark hw h q s
    rw [e1]
    exact ⟨S1, K1, rfl, h1, b1.cg hs⟩
theorem c_markSlotted (hw : Tw T) (h : KA A ex K S) (q : KQ T ex K) {p t : Option Nat} (hp : ∀ x, p = some x → x < Tn T) (ht : ∀ x, t = some x → x < Tn T) : ∃ S' K', f_X11_markSlotted (A 49 0) (el A p) (el A t) S = some S' ∧ KA A ex K' S' ∧ CMk T (TMh T p t) K K' := by
  unfold f_X11_markSlotted
  cases p with
  | none =>
    rw [if_pos (el_none A)]
    obtain ⟨S1, K1, e1, h1, b1⟩ := c_markSlotted_23 hw h q ht
    exact ⟨S1, K1, e1, h1, b1.cg (fun e _ _ => by unfold TMh; simp)⟩
  | some x =>
    have hx := hp x rfl
    rw [if_neg (show ¬ el A (some x) = none from fun z => by cases z), el_some, q.1.gs h hx]
    simp only [qqb]
    rw [b2_i0]
    by_cases hs : Ts T x = true
    · rw [if_pos hs, q.2.1.trees h]
      simp only [qqb]
      rw [q.1.r10 h]
      simp only [qqb]
      obtain ⟨s, e0, hs9⟩ := c_below hw q.1 h q.2.2.1 q.2.2.2 hx
      rw [e0]
      simp only [qqb]
      rw [q.2.1.r11 h]
      simp only [qqb]
      obtain ⟨S1, K1, e1, h1, b1⟩ := c_mark hw h q s
      rw [e1]
      simp only [qqb]
      obtain ⟨S2, K2, e2, h2, b2⟩ := c_markSlotted_23 hw h1 (b1.kq q) ht
      exact ⟨S2, K2, e2, h2, ((b1.cg hs9).tr b2).cg (fun e _ _ => by unfold TMh; simp [hs])⟩
    · rw [if_neg hs]
      obtain ⟨S1, K1, e1, h1, b1⟩ := c_markSlotted_23 hw h q ht
      exact ⟨S1, K1, e1, h1, b1.cg (fun e _ _ => by unfold TMh; simp [hs])⟩
theorem c_markMove_68 (hw : Tw T) (h : KA A ex K S) (q : KQ T ex K) {p t : Option Nat} (hp : ∀ x, p = some x → x < Tn T) (ht : ∀ x, t = some x → x < Tn T) {o9 h9 : Bool} (hh : K.1 58 0 12 = b2 h9) : ∃ S' K', f_X11_markMove_68 (A 49 0) (el A p) (el A t) S = some S' ∧ KA A ex K' S' ∧ CMk T (fun e => TMh T p t e || h9) K K' := by
  have h82 : ∀ (K : kS) (S : cS), KA A ex K S → KQ T ex K → ∃ S' K', f_X11_markMove_82 (A 49 0) (el A p) (el A t) S = some S' ∧ KA A ex K' S' ∧ CMk T (TMh T p t) K K' := by
    intro K S h q
    unfold f_X11_markMove_82
    rw [q.2.1.r11 h]
    simp only [qqb]
    obtain ⟨S1, K1, e1, h1, b1⟩ := c_markSlotted hw h q hp ht
    rw [e1]
    exact ⟨S1, K1, rfl, h1, b1⟩
  unfold f_X11_markMove_68
  rw [q.2.1.cascade h]
  simp only [qqb]
  rw [q.2.1.I58 h, hh]
  simp only [qqb]
  rw [b2_i0]
  cases h9 with
  | false =>
    rw [if_neg (by decide)]
    obtain ⟨S1, K1, e1, h1, b1⟩ := h82 K S h q
    exact ⟨S1, K1, e1, h1, b1.cg (fun e _ _ => by simp)⟩
  | true =>
    rw [if_pos rfl, q.2.1.r11 h]
    simp only [qqb]
    obtain ⟨S1, K1, e1, h1, b1⟩ := c_markAll hw h q
    rw [e1]
    simp only [qqb]
    obtain ⟨S2, K2, e2, h2, b2⟩ := h82 K1 S1 h1 (b1.kq q)
    exact ⟨S2, K2, e2, h2, (b1.tr b2).cg (fun e _ _ => by simp)⟩
theorem c_markOne (hw : Tw T) (h : KA A ex K S) (q : KQ T ex K) {x : Nat} (hx : x < Tn T) {F : Int32 → Nat → Option Nat → Option Nat → cS → Option cS} : ∃ s, f_X10_below (A 50 0) (some (A 0 x)) S = some s ∧ ∃ S' K', f_X11_mark (A 49 0) ((1 : Int32) <<< (nI x &&& 31) ||| s) S = some S' ∧ KA A ex K' S' ∧ CMk T (fun e => decide (e = x) || TB T x e) K K' := by
  have h30 := hw.n30
  obtain ⟨s, e0, hs⟩ := c_below hw q.1 h q.2.2.1 q.2.2.2 hx
  obtain ⟨S1, K1, e1, h1, b1⟩ := c_mark hw h q ((1 : Int32) <<< (nI x &&& 31) ||| s)
  exact ⟨s, e0, S1, K1, e1, h1, b1.cg (fun e he hd => by rw [b_or, b_one (by omega) (by omega), hs e he hd])⟩
theorem c_markMove_32 (hw : Tw T) {p t : Option Nat} (hp : ∀ x, p = some x → x < Tn T) (ht : ∀ x, t = some x → x < Tn T) {h9 : Bool} : ∀ d m (x : Nat) (K : kS) (S : cS), KA A ex K S → KQ T ex K → K.1 58 0 12 = b2 h9 → x < Tn T → Tix T x + d = (Tsb T x).length → d + 1 < m → ∃ S' K', f_X11_markMove_32 (A 49 0) m (el A p) (el A t) (some (A 0 x)) S = some S' ∧ KA A ex K' S' ∧ CMk T (fun e => TMs T (some x) e || (TMh T p t e || h9)) K K' := by
  have h30 := hw.n30
  intro d
  induction d with
  | zero => intro m x K S h q hh hx hd hm; have := Tix_lt hw x; omega
  | succ d ih =>
    intro m x K S h q hh hx hd hm
    obtain ⟨m, rfl⟩ : ∃ m', m = m' + 1 := ⟨m - 1, by omega⟩
    rw [f_X11_markMove_32, if_neg (fun z => by cases z), q.1.gn h hx]
    simp only [qqb]
    rw [q.2.1.trees h]
    simp only [qqb]
    rw [q.1.r10 h]
    simp only [qqb]
    obtain ⟨s, e0, S1, K1, e1, h1, b1⟩ := c_markOne hw h q hx (F := fun _ _ _ _ _ => none)
    rw [e0]
    simp only [qqb]
    rw [q.2.1.r11 h]
    simp only [qqb]
    rw [e1]
    simp only [qqb]
    have q1 := b1.kq q
    have hh1 : K1.1 58 0 12 = b2 h9 := by rw [b1.kB.1 58 0 12 (by simp [MI])]; exact hh
    rw [q1.1.g12 h1 hx]
    simp only [qqb]
    have hany := fun e => Tsb_any hw (x := x) (fun y => decide (e = y) || TB T y e)
    cases hz : Tnx T x with
    | none =>
      obtain ⟨m, rfl⟩ : ∃ m', m = m' + 1 := ⟨m - 1, by omega⟩
      rw [f_X11_markMove_32, if_pos (el_none A)]
      obtain ⟨S2, K2, e2, h2, b2⟩ := c_markMove_68 (o9 := true) hw h1 q1 hp ht hh1
      refine ⟨S2, K2, e2, h2, (b1.tr b2).cg (fun e _ _ => ?_)⟩
      have := hany e
      rw [hz] at this
      unfold TMs
      simp only [this, Bool.or_false]
    | some z =>
      obtain ⟨z1, z2, z3, z4, z5⟩ := Tnx_some hw hz
      obtain ⟨S2, K2, e2, h2, b2⟩ := ih m z K1 S1 h1 q1 hh1 (Tnx_lt hw hx hz) (by rw [z4]; omega) (by omega)
      refine ⟨S2, K2, e2, h2, (b1.tr b2).cg (fun e _ _ => ?_)⟩
      have := hany e
      rw [hz] at this
      unfold TMs
      simp only [this, Bool.or_assoc]
theorem c_markMove (hw : Tw T) (h : KA A ex K S) (q : KQ T ex K) {e0 : Nat} {next p t : Option Nat} (he : e0 < Tn T) (hn : ∀ x, next = some x → x < Tn T) (hp : ∀ x, p = some x → x < Tn T) (ht : ∀ x, t = some x → x < Tn T) {o9 h9 : Bool} (ho : K.1 58 0 11 = b2 o9) (hh : K.1 58 0 12 = b2 h9) : ∃ S' K', f_X11_markMove (A 49 0) (some (A 0 e0)) (el A next) (el A p) (el A t) S = some S' ∧ KA A ex K' S' ∧ CMk T (fun e => (decide (e = e0) || TB T e0 e) || TMm T o9 h9 next p t e) K K' := by
  unfold f_X11_markMove
  rw [q.1.gn h he]
  simp only [qqb]
  rw [q.2.1.trees h]
  simp only [qqb]
  rw [q.1.r10 h]
  simp only [qqb]
  obtain ⟨s, e0', S1, K1, e1, h1, b1⟩ := c_markOne hw h q he (F := fun _ _ _ _ _ => none)
  rw [e0']
  simp only [qqb]
  rw [q.2.1.r11 h]
  simp only [qqb]
  rw [e1]
  simp only [qqb]
  have q1 := b1.kq q
  have hh1 : K1.1 58 0 12 = b2 h9 := by rw [b1.kB.1 58 0 12 (by simp [MI])]; exact hh
  have ho1 : K1.1 58 0 11 = b2 o9 := by rw [b1.kB.1 58 0 11 (by simp [MI])]; exact ho
  rw [q1.2.1.cascade h1]
  simp only [qqb]
  rw [q1.2.1.I58 h1, ho1]
  simp only [qqb]
  rw [b2_i0]
  cases o9 with
  | false =>
    rw [if_neg (by decide)]
    obtain ⟨S2, K2, e2, h2, b2⟩ := c_markMove_68 (o9 := true) hw h1 q1 hp ht hh1
    exact ⟨S2, K2, e2, h2, (b1.tr b2).cg (fun e _ _ => by unfold TMm; simp)⟩
  | true =>
    rw [if_pos rfl]
    cases next with
    | none =>
      rw [show (4000 : Nat) = 3999 + 1 from rfl, f_X11_markMove_32, if_pos (el_none A)]
      obtain ⟨S2, K2, e2, h2, b2⟩ := c_markMove_68 (o9 := true) hw h1 q1 hp ht hh1
      exact ⟨S2, K2, e2, h2, (b1.tr b2).cg (fun e _ _ => by unfold TMm TMs; simp)⟩
    | some x =>
      have hx := hn x rfl
      obtain ⟨S2, K2, e2, h2, b2⟩ := c_markMove_32 hw hp ht ((Tsb T x).length - Tix T x) 4000 x K1 S1 h1 q1 hh1 hx (by have := Tix_lt hw x; omega) (by have := Tsb_len hw hx; have := hw.n30; omega)
      exact ⟨S2, K2, e2, h2, (b1.tr b2).cg (fun e _ _ => by unfold TMm; simp)⟩
end CN
