def seg (K : kS) : Nat → List Nat → Nat → Prop
  | x, [], y => x = y
  | x, z :: F, y => K.2 0 x 17 = some (0, z) ∧ seg K z F y
def chS (K : kS) : Nat → List Nat → Prop
  | x, [] => K.2 0 x 17 = none
  | x, z :: r => K.2 0 x 17 = some (0, z) ∧ chS K z r
theorem seg_last {K : kS} : ∀ {F : List Nat} {x y : Nat}, seg K x F y → y ∈ x :: F := by
  intro F
  induction F with
  | nil => intro x y h; have h : x = y := h; rw [h]; exact List.mem_cons_self
  | cons z F ih => intro x y h; exact List.mem_cons_of_mem _ (ih h.2)
theorem seg_cong {K K' : kS} : ∀ {F : List Nat} {x y : Nat}, seg K x F y → (x :: F).Nodup → (∀ z ∈ x :: F, z ≠ y → K'.2 0 z 17 = K.2 0 z 17) → seg K' x F y := by
  intro F
  induction F with
  | nil => intro x y h _ _; exact h
  | cons z F ih =>
    intro x y h hn hk
    have hn2 := List.nodup_cons.mp hn
    have hy := seg_last h.2
    refine ⟨?_, ih h.2 hn2.2 (fun w hw hwy => hk w (List.mem_cons_of_mem _ hw) hwy)⟩
    rw [hk x List.mem_cons_self (fun e => hn2.1 (by rw [e]; exact hy))]
    exact h.1
theorem chS_cong {K K' : kS} : ∀ {r : List Nat} {x : Nat}, chS K x r → (∀ z ∈ x :: r, K'.2 0 z 17 = K.2 0 z 17) → chS K' x r := by
  intro r
  induction r with
  | nil => intro x h hk; show K'.2 0 x 17 = none; rw [hk x List.mem_cons_self]; exact h
  | cons z r ih =>
    intro x h hk
    refine ⟨?_, ih h.2 (fun w hw => hk w (List.mem_cons_of_mem _ hw))⟩
    rw [hk x List.mem_cons_self]
    exact h.1
theorem seg_chS {K : kS} : ∀ {F : List Nat} {x y : Nat} {r : List Nat}, seg K x F y → chS K y r → chS K x (F ++ r) := by
  intro F
  induction F with
  | nil => intro x y r h hc; have h : x = y := h; rw [h]; exact hc
  | cons z F ih => intro x y r h hc; exact ⟨h.1, ih h.2 hc⟩
theorem seg_app {K : kS} : ∀ {F : List Nat} {x y w : Nat} {G : List Nat}, seg K x F y → seg K y G w → seg K x (F ++ G) w := by
  intro F
  induction F with
  | nil => intro x y w G h hc; have h : x = y := h; rw [h]; exact hc
  | cons z F ih => intro x y w G h hc; exact ⟨h.1, ih h.2 hc⟩
theorem seg_snoc {K : kS} {F : List Nat} {x y z : Nat} (h : seg K x F y) (hz : K.2 0 y 17 = some (0, z)) : seg K x (F ++ [z]) z := seg_app h ⟨hz, rfl⟩
section LU
variable {T : qqT} {A : kA} {ex : Nat → Nat → Prop}
def sibL (T : qqT) (l : List Nat) : Prop := ∀ i y, l[i]? = some y → Tnx T y = l[i + 1]?
theorem sibL_c (hw : Tw T) (p : Nat) : sibL T (Tc T p) := by
  intro i y hy
  have hp := hw.c (List.mem_of_getElem? hy)
  have hs := Tsb_p hp
  have hx := Tix_at hw (e := y) (by rw [hs]; exact hy)
  unfold Tnx
  rw [hs, hx]
theorem sibL_t (hw : Tw T) (p : Nat) : sibL T (Tt T p) := by
  intro i y hy
  have hp := hw.t (List.mem_of_getElem? hy)
  have hs := Tsb_h hw hp
  have hx := Tix_at hw (e := y) (by rw [hs]; exact hy)
  unfold Tnx
  rw [hs, hx]
theorem sibL_tail {y : Nat} {l : List Nat} (h : sibL T (y :: l)) : sibL T l ∧ Tnx T y = l.head? := by
  refine ⟨fun i z hz => h (i + 1) z hz, ?_⟩
  rw [h 0 y rfl]
  cases l <;> rfl
def K16 (T : qqT) (K : kS) : Prop := ∀ e, e < Tn T → K.2 0 e 16 = ro 0 (Tsp T e)
theorem Tsp_n9 (hw : Tw T) {e x : Nat} (h : Tsp T e = some x) : x < Tn T := (Tsp_cases hw h).2.1
theorem KT.w17 {K K' : kS} (t : KT T ex K) {L : Nat → Prop} (b : kB (fun _ _ _ => False) (fun k i j => k = 0 ∧ j = 17 ∧ L i) K K') : KT T ex K' := t.lay (b.wd (fun _ _ _ z => z.elim) (fun k i j z => ⟨z.1, Or.inr (Or.inr z.2.1)⟩))
theorem c_lineUpShown_6 (hw : Tw T) {x : Nat} (hx : x < Tn T) : ∀ (l : List Nat) (m a : Nat) (r : List Nat) (K : kS) (S : cS), KA A ex K S → KT T ex K → K16 T K → (∀ y ∈ l, y < Tn T) → sibL T l → l.length < m → a < Tn T → chS K a r → (a :: (Tfl T x l ++ r)).Nodup → ∃ S' K' b, f_X10_lineUpShown_6 (A 50 0) m (some (A 0 x)) (some (A 0 a)) (el A l.head?) S = some (some (A 0 b), S') ∧ KA A ex K' S' ∧ kB (fun _ _ _ => False) (fun k i j => k = 0 ∧ j = 17 ∧ i ∈ a :: Tfl T x l) K K' ∧ seg K' a (Tfl T x l) b ∧ chS K' b r := by
  intro l
  induction l with
  | nil =>
    intro m a r K S h t k16 hl hs hm ha hc hn
    obtain ⟨m, rfl⟩ : ∃ m', m = m' + 1 := ⟨m - 1, by omega⟩
    rw [f_X10_lineUpShown_6, if_pos (show el A ([] : List Nat).head? = none from rfl)]
    exact ⟨S, K, a, rfl, h, kB.rf K, rfl, hc⟩
  | cons y l ih =>
    intro m a r K S h t k16 hl hs hm ha hc hn
    obtain ⟨m, rfl⟩ : ∃ m', m = m' + 1 := ⟨m - 1, by omega⟩
    have hy := hl y List.mem_cons_self
    obtain ⟨hs1, hs2⟩ := sibL_tail hs
    have hl1 : ∀ z ∈ l, z < Tn T := fun z hz => hl z (List.mem_cons_of_mem _ hz)
    simp only [List.length_cons] at hm
    rw [f_X10_lineUpShown_6, if_neg (show ¬ el A (y :: l).head? = none from fun z => by cases z)]
    show ∃ S' K' b, (gR S (some (A 0 y)) 3 16).bind _ = _ ∧ _
    rw [h.R 0 3 (t.E hy (by decide)) rfl, k16 y hy, el_kp]
    simp only [qqb]
    have hxe : (el A (Tsp T y) = some (A 0 x)) = (Tsp T y = some x) := el_eq t h (y := some x) (fun e he => Tsp_n9 hw he) (fun e he => by cases he; exact hx)
    by_cases hc9 : Tsp T y = some x
    · rw [if_pos (by rw [hxe]; exact hc9)]
      have hf : Tfl T x (y :: l) = y :: Tfl T x l := by unfold Tfl; rw [List.filter_cons_of_pos (by rw [decide_eq_true_iff]; exact hc9)]
      rw [hf] at hn ⊢
      have hn1 := List.nodup_cons.mp hn
      have hay : a ≠ y := fun e => hn1.1 (by rw [e]; exact List.mem_cons_self)
      have hn2 := List.nodup_cons.mp hn1.2
      rw [h.R 0 3 (t.E ha (by decide)) rfl]
      simp only [qqb]
      obtain ⟨S1, e1, h1⟩ := h.PR (k := 0) (i := y) (j := 17) (t := 3) (t.E hy (by decide)) rfl (by decide) (K.2 0 a 17) (fun r hr => h.2.2 0 a 17 r (t.E ha (by decide)) hr)
      rw [show (el A (y :: l).head?) = some (A 0 y) from rfl, e1]
      simp only [qqb]
      obtain ⟨S2, e2, h2⟩ := h1.PR (k := 0) (i := a) (j := 17) (t := 3) (t.E ha (by decide)) rfl (by decide) (some (0, y)) (fun r hr => by cases hr; exact t.E (k := 0) hy (Nat.zero_le _))
      have e2 : pR S1 (some (A 0 a)) 3 17 (some (A 0 y)) = some S2 := e2
      rw [e2]
      simp only [qqb]
      unfold f_X10_lineUpShown_41
      have b2 : kB (fun _ _ _ => False) (fun k i j => k = 0 ∧ j = 17 ∧ i ∈ a :: y :: Tfl T x l) K (kwR (kwR K 0 y 17 (K.2 0 a 17)) 0 a 17 (some (0, y))) := ((kB.rf K).R (by simp)).R (by simp)
      have t2 := t.w17 b2
      have k2 : K16 T (kwR (kwR K 0 y 17 (K.2 0 a 17)) 0 a 17 (some (0, y))) := fun e he => by rw [b2.2 0 e 16 (by simp)]; exact k16 e he
      rw [t2.g12 h2 hy, hs2]
      simp only [qqb]
      have hc2 : chS (kwR (kwR K 0 y 17 (K.2 0 a 17)) 0 a 17 (some (0, y))) y r := by
        cases r with
        | nil =>
          show (kwR (kwR K 0 y 17 (K.2 0 a 17)) 0 a 17 (some (0, y))).2 0 y 17 = none
          rw [kwR_2, if_neg (by omega), kwR_2, if_pos ⟨rfl, rfl, rfl⟩]
          exact hc
        | cons z r =>
          refine ⟨?_, chS_cong hc.2 (fun w hw9 => ?_)⟩
          · rw [kwR_2, if_neg (by omega), kwR_2, if_pos ⟨rfl, rfl, rfl⟩]
            exact hc.1
          · have hwr : w ∈ Tfl T x l ++ z :: r := List.mem_append_right _ hw9
            have hwa : w ≠ a := fun e => hn1.1 (by rw [← e]; exact List.mem_cons_of_mem _ hwr)
            have hwy : w ≠ y := fun e => hn2.1 (by rw [← e]; exact hwr)
            rw [kwR_2, if_neg (by omega), kwR_2, if_neg (by omega)]
      obtain ⟨S3, K3, b, e3, h3, b3, s3, c3⟩ := ih m y r _ S2 h2 t2 k2 hl1 hs1 (by omega) hy hc2 hn1.2
      refine ⟨S3, K3, b, e3, h3, b2.tr (b3.wd (fun _ _ _ z => z) (fun k i j z => ⟨z.1, z.2.1, List.mem_cons_of_mem _ z.2.2⟩)), ⟨?_, s3⟩, c3⟩
      have hanot : a ∉ y :: Tfl T x l := fun z => hn1.1 ((List.mem_cons.mp z).elim (fun e => by rw [e]; exact List.mem_cons_self) (fun z => List.mem_cons_of_mem _ (List.mem_append_left _ z)))
      rw [b3.2 0 a 17 (fun z => hanot z.2.2), kwR_2, if_pos ⟨rfl, rfl, rfl⟩]
    · rw [if_neg (by rw [hxe]; exact hc9)]
      have hf : Tfl T x (y :: l) = Tfl T x l := by unfold Tfl; rw [List.filter_cons_of_neg (by rw [decide_eq_true_iff]; exact hc9)]
      rw [hf] at hn ⊢
      unfold f_X10_lineUpShown_41
      rw [show (el A (y :: l).head?) = some (A 0 y) from rfl, t.g12 h hy, hs2]
      simp only [qqb]
      exact ih m a r K S h t k16 hl1 hs1 (by omega) ha hc hn
theorem c_lineUpShown (hw : Tw T) {x a : Nat} {l r : List Nat} {K : kS} {S : cS} (hx : x < Tn T) (h : KA A ex K S) (t : KT T ex K) (k16 : K16 T K) (hl : ∀ y ∈ l, y < Tn T) (hs : sibL T l) (hm : l.length < 4000) (ha : a < Tn T) (hc : chS K a r) (hn : (a :: (Tfl T x l ++ r)).Nodup) : ∃ S' K' b, f_X10_lineUpShown (A 50 0) (some (A 0 a)) (el A l.head?) (some (A 0 x)) S = some (some (A 0 b), S') ∧ KA A ex K' S' ∧ kB (fun _ _ _ => False) (fun k i j => k = 0 ∧ j = 17 ∧ i ∈ a :: Tfl T x l) K K' ∧ seg K' a (Tfl T x l) b ∧ chS K' b r := c_lineUpShown_6 hw hx l 4000 a r K S h t k16 hl hs hm ha hc hn
theorem Tfl_lt {x : Nat} {l : List Nat} (hl : ∀ y ∈ l, y < Tn T) : ∀ y ∈ Tfl T x l, y < Tn T := fun y hy => hl y (Tfl_mem.mp hy).1
theorem seg_lt {K : kS} {x b : Nat} {F : List Nat} (h : seg K x F b) (hx : x < Tn T) (hF : ∀ y ∈ F, y < Tn T) : b < Tn T := by
  rcases List.mem_cons.mp (seg_last h) with e | e
  · rw [e]; exact hx
  · exact hF b e
theorem seg_two {K1 K2 : kS} {x b : Nat} {F G r : List Nat} {L : Nat → Prop} (s1 : seg K1 x F b) (s2 : chS K2 b (G ++ r)) (hn : (x :: (F ++ (G ++ r))).Nodup) (bb : kB (fun _ _ _ => False) (fun k i j => k = 0 ∧ j = 17 ∧ i ∈ b :: G) K1 K2) : chS K2 x (F ++ (G ++ r)) := by
  have hxF : (x :: F).Nodup := by
    have : x :: (F ++ (G ++ r)) = (x :: F) ++ (G ++ r) := rfl
    rw [this] at hn
    exact (List.nodup_append.mp hn).1
  refine seg_chS (seg_cong s1 hxF (fun z hz hzb => ?_)) s2
  refine bb.2 0 z 17 (fun w => ?_)
  rcases List.mem_cons.mp w.2.2 with e | e
  · exact hzb e
  · have h9 : x :: (F ++ (G ++ r)) = (x :: F) ++ (G ++ r) := rfl
    rw [h9] at hn
    exact (List.nodup_append.mp hn).2.2 z hz z (List.mem_append_left _ e) rfl
end LU
