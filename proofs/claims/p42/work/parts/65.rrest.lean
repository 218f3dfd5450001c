theorem lN_big {n : Nat} (h : n < 2 ^ 63) : (lN n).toInt = n := lg_ofNat_toInt h
theorem lN_div {a b : Nat} (ha : a < 2 ^ 62) (hb : b < 2 ^ 62) : lN a / lN b = lN (a / b) := by
  have h : a / b ≤ a := Nat.div_le_self a b
  refine Int64.toInt_inj.mp ?_
  rw [Int64.toInt_div, lN_big (by omega), lN_big (by omega), lN_big (by omega), ← Int.ofNat_tdiv]
  have g : ∀ q : Nat, q ≤ a → ((q : Int)).bmod (2 ^ 64) = q := fun q hq => Int.bmod_eq_of_le (by omega) (by omega)
  exact g _ h
def oldIs (e : Nat) (σ τ : mS) : Prop := (∀ p, p < 12 → τ.1 82 p = σ.1 43 (12 * e + p)) ∧ ∀ v, v < 3 → τ.1 83 v = σ.1 44 (3 * e + v) ∧ τ.1 84 v = σ.1 45 (3 * e + v)
def qDf (σ σ' : mS) (e p : Nat) : Bool := if p < 12 then decide (σ'.1 43 (12 * e + p) ≠ σ.1 43 (12 * e + p)) else decide (σ'.1 44 (3 * e + (p - 12)) ≠ σ.1 44 (3 * e + (p - 12)) ∨ σ'.1 45 (3 * e + (p - 12)) ≠ σ.1 45 (3 * e + (p - 12)))
theorem r_differs {e p : Nat} {σ τ : mS} (h : oldIs e σ τ) (he : e < 30) (hp : p < 15) : f_differs (nI e) (nI p) τ = some (b2 (qDf σ τ e p)) := by
  unfold f_differs qDf f_differs_79 f_differs_84
  by_cases c : p < 12
  · rw [if_neg (ge12 c), if_pos c, show (12 : Int32) = nI 12 from rfl, pk_mul, nI_add, rd_43 (by omega), qqx, rd_82 c, qqx, h.1 p c]
    by_cases d : τ.1 43 (12 * e + p) = σ.1 43 (12 * e + p)
    · rw [if_pos d, decide_eq_false (fun z => z d)]; rfl
    · rw [if_neg d, decide_eq_true d]; rfl
  · have i1 : 3 * e + p - 12 = 3 * e + (p - 12) := by omega
    rw [if_pos (le12 (by omega) (by omega)), if_neg c, show (12 : Int32) = nI 12 from rfl, show (3 : Int32) = nI 3 from rfl, pk_mul, nI_add, pk_sub (by omega), pk_sub (by omega), i1, rd_44 (by omega), qqx, rd_83 (by omega), qqx, (h.2 (p - 12) (by omega)).1, rd_45 (by omega), qqx, rd_84 (by omega), qqx, (h.2 (p - 12) (by omega)).2]
    by_cases d1 : τ.1 44 (3 * e + (p - 12)) = σ.1 44 (3 * e + (p - 12))
    · by_cases d2 : τ.1 45 (3 * e + (p - 12)) = σ.1 45 (3 * e + (p - 12))
      · rw [if_pos d1, if_pos d2, decide_eq_false (fun z => z.elim (fun z => z d1) (fun z => z d2))]; rfl
      · rw [if_pos d1, if_neg d2, decide_eq_true (Or.inr d2)]; rfl
    · rw [if_neg d1, decide_eq_true (Or.inl d1)]; rfl
def rT (e : Nat) (σ σ' : mS) : Prop := (∀ f, f ≠ 79 → σ'.2 f = σ.2 f) ∧ (∀ f, f ∉ [43, 44, 45, 46, 47, 55, 56, 57, 58, 59, 69, 78, 82, 83, 84] → σ'.1 f = σ.1 f) ∧ (∀ i, i < 720 → i / 12 ≠ e → σ'.1 43 i = σ.1 43 i) ∧ (∀ i, i < 180 → i / 3 ≠ e → σ'.1 44 i = σ.1 44 i ∧ σ'.1 45 i = σ.1 45 i) ∧ (∀ i, i ≠ e → σ'.1 46 i = σ.1 46 i) ∧ (∀ i, i / 5 ≠ e → σ'.1 47 i = σ.1 47 i ∧ σ'.1 55 i = σ.1 55 i ∧ σ'.1 56 i = σ.1 56 i ∧ σ'.1 57 i = σ.1 57 i ∧ σ'.1 58 i = σ.1 58 i) ∧ ∀ i, i ≠ e → σ'.1 59 i = σ.1 59 i
theorem rT.rf {e : Nat} (σ : mS) : rT e σ σ := ⟨fun _ _ => rfl, fun _ _ => rfl, fun _ _ _ => rfl, fun _ _ _ => ⟨rfl, rfl⟩, fun _ _ => rfl, fun _ _ => ⟨rfl, rfl, rfl, rfl, rfl⟩, fun _ _ => rfl⟩
theorem rT.tr {e : Nat} {a b c : mS} (h : rT e a b) (k : rT e b c) : rT e a c := by
  obtain ⟨h1, h2, h3, h4, h5, h6, h7⟩ := h
  obtain ⟨k1, k2, k3, k4, k5, k6, k7⟩ := k
  refine ⟨fun f hf => (k1 f hf).trans (h1 f hf), fun f hf => (k2 f hf).trans (h2 f hf), fun i hi hn => (k3 i hi hn).trans (h3 i hi hn), fun i hi hn => ⟨(k4 i hi hn).1.trans (h4 i hi hn).1, (k4 i hi hn).2.trans (h4 i hi hn).2⟩, fun i hi => (k5 i hi).trans (h5 i hi), fun i hi => ?_, fun i hi => (k7 i hi).trans (h7 i hi)⟩
  obtain ⟨p1, p2, p3, p4, p5⟩ := h6 i hi
  obtain ⟨q1, q2, q3, q4, q5⟩ := k6 i hi
  exact ⟨q1.trans p1, q2.trans p2, q3.trans p3, q4.trans p4, q5.trans p5⟩
theorem rT.o {e : Nat} {x y : mS} (h : rT e x y) {f : Nat} (hf : f ∉ [43, 44, 45, 46, 47, 55, 56, 57, 58, 59, 69, 78, 82, 83, 84] := by decide) : y.1 f = x.1 f := h.2.1 f hf
theorem rT.of_sB {e : Nat} {x y : mS} (h : sB [69, 78, 82, 83, 84] [79] x y) : rT e x y := by
  have g : ∀ f, f ∉ [69, 78, 82, 83, 84] → y.1 f = x.1 f := h.1
  refine ⟨fun f hf => h.2 f (by simpa using hf), fun f hf => g f (fun z => hf ((show ∀ f ∈ [69, 78, 82, 83, 84], f ∈ [43, 44, 45, 46, 47, 55, 56, 57, 58, 59, 69, 78, 82, 83, 84] by decide) f z)), fun i _ _ => by rw [g 43 (by decide)], fun i _ _ => by rw [g 44 (by decide), g 45 (by decide)]; exact ⟨rfl, rfl⟩, fun i _ => by rw [g 46 (by decide)], fun i _ => by rw [g 47 (by decide), g 55 (by decide), g 56 (by decide), g 57 (by decide), g 58 (by decide)]; exact ⟨rfl, rfl, rfl, rfl, rfl⟩, fun i _ => by rw [g 59 (by decide)]⟩
theorem rT.of_W {e : Nat} {x y : mS} (h : rW 0 e x y) : rT e x y := by
  have g : ∀ f, f ∉ [43, 44, 45, 47] → y.1 f = x.1 f := h.2.1
  refine ⟨fun f _ => by rw [h.1], fun f hf => g f (fun z => hf ((show ∀ f ∈ [43, 44, 45, 47], f ∈ [43, 44, 45, 46, 47, 55, 56, 57, 58, 59, 69, 78, 82, 83, 84] by decide) f z)), fun i _ hi => h.2.2.1 i (by omega), fun i _ hi => h.2.2.2.1 i (by omega), fun i _ => by rw [g 46 (by decide)], fun i hi => ?_, fun i _ => by rw [g 59 (by decide)]⟩
  · rw [h.2.2.2.2 i (Or.inr hi), g 55 (by decide), g 56 (by decide), g 57 (by decide), g 58 (by decide)]; exact ⟨rfl, rfl, rfl, rfl, rfl⟩
theorem rT.of_a2 {e : Nat} {x y : mS} (h : rA2 x y) : rT e x y := by
  have g : ∀ f, f ∉ [43, 44, 45, 78] → y.1 f = x.1 f := h.1
  refine ⟨h.2.2.2, fun f hf => g f (fun z => hf ((show ∀ f ∈ [43, 44, 45, 78], f ∈ [43, 44, 45, 46, 47, 55, 56, 57, 58, 59, 69, 78, 82, 83, 84] by decide) f z)), fun i hi _ => h.2.1 i hi, fun i hi _ => h.2.2.1 i hi, fun i _ => by rw [g 46 (by decide)], fun i _ => by rw [g 47 (by decide), g 55 (by decide), g 56 (by decide), g 57 (by decide), g 58 (by decide)]; exact ⟨rfl, rfl, rfl, rfl, rfl⟩, fun i _ => by rw [g 59 (by decide)]⟩
theorem rT.u46 {e : Nat} {x y : mS} {v : Int32} (h : rT e x y) : rT e x (up y 46 e v) := by
  refine h.tr ⟨fun f _ => rfl, fun f hf => up_o (fun z => hf (by rw [z]; decide)), fun i _ _ => ?_, fun i _ _ => ?_, fun i hi => up_sn hi, fun i _ => ?_, fun i _ => ?_⟩
  · rw [up_o (by decide)]
  · rw [up_o (by decide), up_o (by decide)]; exact ⟨rfl, rfl⟩
  · rw [up_o (by decide), up_o (by decide), up_o (by decide), up_o (by decide), up_o (by decide)]; exact ⟨rfl, rfl, rfl, rfl, rfl⟩
  · rw [up_o (by decide)]
theorem rT.u59 {e : Nat} {x y : mS} {v : Int32} (h : rT e x y) : rT e x (up y 59 e v) := by
  refine h.tr ⟨fun f _ => rfl, fun f hf => up_o (fun z => hf (by rw [z]; decide)), fun i _ _ => ?_, fun i _ _ => ?_, fun i _ => ?_, fun i _ => ?_, fun i hi => up_sn hi⟩
  · rw [up_o (by decide)]
  · rw [up_o (by decide), up_o (by decide)]; exact ⟨rfl, rfl⟩
  · rw [up_o (by decide)]
  · rw [up_o (by decide), up_o (by decide), up_o (by decide), up_o (by decide), up_o (by decide)]; exact ⟨rfl, rfl, rfl, rfl, rfl⟩
def qTk (σ : mS) (e p : Nat) (ease new : Int32) : Int32 := if (qMv σ e p && decide (new = σ.1 57 (5 * e + p))) = true then (if (1 : Int32) ≤ ((ease.toInt64 * (σ.2 54 - σ.1 55 (5 * e + p)).toInt64 + (σ.1 56 (5 * e + p)).toInt64 - 1) / (σ.1 56 (5 * e + p)).toInt64).toInt32 then ((ease.toInt64 * (σ.2 54 - σ.1 55 (5 * e + p)).toInt64 + (σ.1 56 (5 * e + p)).toInt64 - 1) / (σ.1 56 (5 * e + p)).toInt64).toInt32 else 1) else ease
theorem qMv_is {σ : mS} (hn : RNw σ) {e p : Nat} (he : e < 30) (hp : p < 5) (h : qMv σ e p = true) : ∃ g m, g < m ∧ g ≤ 600000 ∧ m ≤ 1000000 ∧ σ.2 54 - σ.1 55 (5 * e + p) = nI g ∧ σ.1 56 (5 * e + p) = nI m := by
  obtain ⟨nw, w1, w2, w3, w4⟩ := hn
  unfold qMv at h
  simp only [Bool.and_eq_true, decide_eq_true_eq] at h
  rcases w4 (5 * e + p) (by omega) with h5 | ⟨k, k1, k2, m, m1, m2, m3⟩
  · rw [h5] at h; exact absurd h.1 (by decide)
  · have h2 := h.2
    rw [w2, k2, pk_sub k1, m3] at h2
    have h3 := (nI_ltI (by omega) (by omega)).mp h2
    exact ⟨nw - k, m, h3, by omega, m2, by rw [w2, k2, pk_sub k1], m3⟩
theorem bV_pos {x : Int32} (h : bV x) (h0 : 0 < x) : ∃ a, 1 ≤ a ∧ a ≤ 1000000 ∧ x = nI a := by
  have h6 : (1000000 : Int32).toInt = 1000000 := by decide
  have hx := h.2
  obtain ⟨a, ha, rfl⟩ := nI_of2 (x := x) (M := 1000000) (n := 1000000) (by decide) (Int32.not_lt.mpr (Int32.le_of_lt h0)) (Int32.le_iff_toInt_le.mpr (by rw [h6]; exact hx))
  refine ⟨a, ?_, ha, rfl⟩
  have := (nI_ltI (a := 0) (by decide) (by omega)).mp h0
  omega
theorem qTk_is {σ : mS} (hn : RNw σ) {e p : Nat} (he : e < 30) (hp : p < 5) {ease new : Int32} (hb : bV ease) (h0 : 0 < ease) : ∃ m, 1 ≤ m ∧ m ≤ 1000000 ∧ qTk σ e p ease new = nI m := by
  obtain ⟨a, a1, a2, rfl⟩ := bV_pos hb h0
  unfold qTk
  by_cases c : (qMv σ e p && decide (new = σ.1 57 (5 * e + p))) = true
  · rw [if_pos c]
    obtain ⟨g, m, g1, g2, g3, g4, g5⟩ := qMv_is hn he hp (by simp only [Bool.and_eq_true] at c; exact c.1)
    have hag : a * g ≤ 1000000 * 600000 := Nat.mul_le_mul a2 g2
    have hd : ((nI a).toInt64 * (nI g).toInt64 + (nI m).toInt64 - 1) / (nI m).toInt64 = lN ((a * g + m - 1) / m) := by
      rw [nI_l (by omega), nI_l (by omega), nI_l (by omega), lN_mul, lN_add, show (1 : Int64) = lN 1 from rfl, lN_sub (by omega), lN_div (by omega) (by omega)]
    have hle : (a * g + m - 1) / m ≤ a := by
      refine Nat.lt_succ_iff.mp ((Nat.div_lt_iff_lt_mul (by omega)).mpr ?_)
      have h1 : a * g ≤ a * (m - 1) := Nat.mul_le_mul_left a (by omega)
      have h2 : a * (m - 1) + a = a * m := by
        have : a * m = a * (m - 1 + 1) := by rw [Nat.sub_add_cancel (by omega)]
        rw [this, Nat.mul_add, Nat.mul_one]
      have h3 : (a + 1) * m = a * m + m := by rw [Nat.add_mul, Nat.one_mul]
      show a * g + m - 1 < (a + 1) * m
      omega
    rw [g4, g5, hd, lN_i]
    by_cases d : (1 : Int32) ≤ nI ((a * g + m - 1) / m)
    · rw [if_pos d]
      have := (nI_leI (a := 1) (by decide) (by omega)).mp d
      exact ⟨_, this, by omega, rfl⟩
    · rw [if_neg d]
      exact ⟨1, by decide, by decide, rfl⟩
  · rw [if_neg c]
    exact ⟨a, a1, a2, rfl⟩
def qBg (σ σ' : mS) (had : Bool) (e p : Nat) : Bool := had && (decide (σ'.1 43 (12 * e + p) ≠ -1000000) && (decide (σ.1 43 (12 * e + p) ≠ -1000000) && decide (0 < σ'.1 43 (12 * e + 10))))
def trR (σ σ' τ : mS) (had : Bool) (e p : Nat) : Prop := if qDf σ σ' e p = true then τ.1 55 (5 * e + p) = (if qBg σ σ' had e p = true then σ.2 54 else -1) ∧ (qBg σ σ' had e p = true → τ.1 56 (5 * e + p) = qTk σ e p (σ'.1 43 (12 * e + 10)) (σ'.1 43 (12 * e + p)) ∧ τ.1 57 (5 * e + p) = σ.1 85 (5 * e + p) ∧ τ.1 58 (5 * e + p) = σ'.1 43 (12 * e + p)) else τ.1 55 (5 * e + p) = σ.1 55 (5 * e + p) ∧ τ.1 56 (5 * e + p) = σ.1 56 (5 * e + p) ∧ τ.1 57 (5 * e + p) = σ.1 57 (5 * e + p) ∧ τ.1 58 (5 * e + p) = σ.1 58 (5 * e + p)
def trU (τ : mS) (k : Nat) (a b c d : Int32) : mS := up (up (up (up τ 55 k a) 56 k b) 57 k c) 58 k d
theorem trU_o {τ : mS} {k f : Nat} {a b c d : Int32} (h : f ∉ [55, 56, 57, 58]) : (trU τ k a b c d).1 f = τ.1 f := by
  unfold trU
  rw [up_o (fun z => h (by rw [z]; decide)), up_o (fun z => h (by rw [z]; decide)), up_o (fun z => h (by rw [z]; decide)), up_o (fun z => h (by rw [z]; decide))]
theorem trU_55 {τ : mS} {k i : Nat} {a b c d : Int32} : (trU τ k a b c d).1 55 i = if i = k then a else τ.1 55 i := by
  unfold trU
  rw [up_o (by decide), up_o (by decide), up_o (by decide), up_s]
theorem trU_56 {τ : mS} {k i : Nat} {a b c d : Int32} : (trU τ k a b c d).1 56 i = if i = k then b else τ.1 56 i := by
  unfold trU
  rw [up_o (by decide), up_o (by decide), up_s, up_o (by decide)]
theorem trU_57 {τ : mS} {k i : Nat} {a b c d : Int32} : (trU τ k a b c d).1 57 i = if i = k then c else τ.1 57 i := by
  unfold trU
  rw [up_o (by decide), up_s, up_o (by decide), up_o (by decide)]
theorem trU_58 {τ : mS} {k i : Nat} {a b c d : Int32} : (trU τ k a b c d).1 58 i = if i = k then d else τ.1 58 i := by
  unfold trU
  rw [up_s, up_o (by decide), up_o (by decide), up_o (by decide)]
def trS (k : Nat) (σ τ : mS) : Prop := τ.1 55 k = σ.1 55 k ∧ τ.1 56 k = σ.1 56 k ∧ τ.1 57 k = σ.1 57 k ∧ τ.1 58 k = σ.1 58 k
def trF (k : Nat) (τ τ' : mS) : Prop := τ'.2 = τ.2 ∧ (∀ f, f ∉ [55, 56, 57, 58] → τ'.1 f = τ.1 f) ∧ ∀ i, i ≠ k → trS i τ τ'
theorem trU_F (τ : mS) (k : Nat) (a b c d : Int32) : trF k τ (trU τ k a b c d) := ⟨rfl, fun _ hf => trU_o hf, fun i hi => ⟨by rw [trU_55, if_neg hi], by rw [trU_56, if_neg hi], by rw [trU_57, if_neg hi], by rw [trU_58, if_neg hi]⟩⟩
theorem r_tr168 {τ : mS} {k : Nat} (hk : k < 150) (to tk : Int32) (bg : Bool) : f_transit_168 (nI k) to (b2 bg) tk τ = some (trU τ k (if bg = true then τ.2 54 else -1) tk (τ.1 85 k) to) := by
  have h : ∀ y, f_transit_187 (nI k) to tk (nI k) y τ = some (trU τ k y tk (τ.1 85 k) to) := by
    intro y
    unfold f_transit_187 trU
    rw [wr_55 hk, qqx, wr_56 hk, qqx, rd_85 hk, qqx, wr_57 hk, qqx, wr_58 hk, qqx, up_o (by decide), up_o (by decide)]
  unfold f_transit_168
  rw [b2_i0]
  by_cases c : bg = true
  · rw [if_pos c, if_pos c]; exact h _
  · rw [if_neg c, if_neg c]; exact h _
theorem qMv_cg {σ τ : mS} {e p : Nat} (h : trS (5 * e + p) σ τ) (h54 : τ.2 54 = σ.2 54) : qMv τ e p = qMv σ e p := by
  unfold qMv
  rw [h.1, h.2.1, h54]
theorem qTk_cg {σ τ : mS} {e p : Nat} (h : trS (5 * e + p) σ τ) (h54 : τ.2 54 = σ.2 54) (a b : Int32) : qTk τ e p a b = qTk σ e p a b := by
  unfold qTk
  rw [qMv_cg h h54, h.1, h.2.1, h.2.2.1, h54]
theorem r_transit {e p : Nat} (he : e < 30) (hp : p < 5) {σ τ : mS} (had : Bool) (hn : RNw τ) (o : oldIs e σ τ) (hk : trS (5 * e + p) σ τ) (h85 : τ.1 85 = σ.1 85) (h54 : τ.2 54 = σ.2 54) : ∃ τ', f_transit (nI e) (nI p) (b2 had) τ = some τ' ∧ trF (5 * e + p) τ τ' ∧ trR σ τ τ' had e p := by
  have h168 := fun (bg : Bool) (tk : Int32) (h1 : bg = qBg σ τ had e p) (h2 : bg = true → tk = qTk σ e p (τ.1 43 (12 * e + 10)) (τ.1 43 (12 * e + p))) (hd : qDf σ τ e p = true) => (show ∃ τ', f_transit_168 (nI (5 * e + p)) (τ.1 43 (12 * e + p)) (b2 bg) tk τ = some τ' ∧ trF (5 * e + p) τ τ' ∧ trR σ τ τ' had e p from by
    refine ⟨_, r_tr168 (by omega) _ _ _, trU_F _ _ _ _ _ _, ?_⟩
    unfold trR
    rw [if_pos hd, trU_55, if_pos rfl, trU_56, if_pos rfl, trU_57, if_pos rfl, trU_58, if_pos rfl, h54, h85, ← h1]
    exact ⟨rfl, fun z => ⟨h2 z, rfl, rfl⟩⟩)
  unfold f_transit
  rw [show (12 : Int32) = nI 12 from rfl, show (5 : Int32) = nI 5 from rfl, show (10 : Int32) = nI 10 from rfl, pk_mul, pk_mul, nI_add, nI_add, nI_add, rd_43 (by omega), qqx, r_differs o he (by omega), qqx, b2_i0]
  by_cases d : qDf σ τ e p = true
  · rw [if_pos d, rd_43 (by omega), qqx, b2_i0, rd_82 (by omega), o.1 p (by omega)]
    have h77 : qBg σ τ had e p = false → ∃ τ', f_transit_77 (nI e) (nI p) (nI (5 * e + p)) (τ.1 43 (12 * e + p)) (τ.1 43 (12 * e + 10)) τ = some τ' ∧ trF (5 * e + p) τ τ' ∧ trR σ τ τ' had e p := by
      intro h
      unfold f_transit_77 f_transit_78
      rw [if_pos rfl]
      exact h168 false _ h.symm (fun z => by cases z) d
    unfold qBg at h77 h168
    cases had with
    | false => rw [if_neg (by decide)]; exact h77 rfl
    | true =>
      rw [if_pos rfl]
      by_cases c1 : τ.1 43 (12 * e + p) = -1000000
      · rw [if_pos c1]
        exact h77 (by rw [decide_eq_false (fun z => z c1)]; rfl)
      · rw [if_neg c1, qqx]
        by_cases c2 : σ.1 43 (12 * e + p) = -1000000
        · rw [if_pos c2]
          exact h77 (by rw [decide_eq_false (show ¬ σ.1 43 (12 * e + p) ≠ -1000000 from fun z => z c2), Bool.false_and, Bool.and_false]; rfl)
        · rw [if_neg c2]
          by_cases c3 : τ.1 43 (12 * e + 10) ≤ 0
          · rw [if_pos c3]
            exact h77 (by rw [decide_eq_false (Int32.not_lt.mpr c3), Bool.and_false, Bool.and_false]; rfl)
          · have hb : true = (true && (decide (τ.1 43 (12 * e + p) ≠ -1000000) && (decide (σ.1 43 (12 * e + p) ≠ -1000000) && decide (0 < τ.1 43 (12 * e + 10))))) := by
              rw [decide_eq_true c1, decide_eq_true c2, decide_eq_true (Int32.not_le.mp c3)]; rfl
            rw [if_neg c3]
            unfold f_transit_78 f_transit_166
            rw [if_neg (by decide), r_moves hn he hp, qqx, b2_i0, rd_57 (by omega), rd_55 (by omega), rd_56 (by omega)]
            have h1 : (1 : Int32) = b2 true := rfl
            by_cases c4 : qMv τ e p = true
            · rw [if_pos c4, qqx]
              by_cases c5 : τ.1 43 (12 * e + p) = τ.1 57 (5 * e + p)
              · obtain ⟨g, m, g1, g2, g3, g4, g5⟩ := qMv_is hn he hp c4
                have ht : ∀ tk, tk = qTk τ e p (τ.1 43 (12 * e + 10)) (τ.1 43 (12 * e + p)) → tk = qTk σ e p (τ.1 43 (12 * e + 10)) (τ.1 43 (12 * e + p)) := fun tk h => h.trans (qTk_cg hk h54 _ _)
                rw [if_pos c5, qqx, qqx, qqx, g5, ldv_n (l_n0 (by omega) (by omega)), qqx]
                unfold qTk at ht
                rw [c4, decide_eq_true c5, if_pos (show (true && true) = true from rfl), g5] at ht
                by_cases c6 : (1 : Int32) ≤ (((τ.1 43 (12 * e + 10)).toInt64 * (τ.2 54 - τ.1 55 (5 * e + p)).toInt64 + (nI m).toInt64 - 1) / (nI m).toInt64).toInt32
                · rw [if_pos c6]
                  rw [if_pos c6] at ht
                  exact h168 true _ hb (fun _ => ht _ rfl) d
                · rw [if_neg c6]
                  rw [if_neg c6] at ht
                  exact h168 true _ hb (fun _ => ht _ rfl) d
              · rw [if_neg c5]
                refine h168 true _ hb (fun _ => ?_) d
                rw [← qTk_cg hk h54]
                unfold qTk
                rw [decide_eq_false c5, Bool.and_false, if_neg (by decide)]
            · rw [if_neg c4]
              refine h168 true _ hb (fun _ => ?_) d
              rw [← qTk_cg hk h54]
              unfold qTk
              rw [Bool.not_eq_true _ |>.mp c4, Bool.false_and, if_neg (by decide)]
  · rw [if_neg d]
    refine ⟨τ, rfl, ⟨rfl, fun _ _ => rfl, fun _ _ => ⟨rfl, rfl, rfl, rfl⟩⟩, ?_⟩
    unfold trR
    rw [if_neg d]
    exact hk
theorem RNw_trF {σ τ τ' : mS} {had : Bool} {e p : Nat} (he : e < 30) (hp : p < 5) (hn : RNw τ) (hs : RNw σ) (h54 : τ.2 54 = σ.2 54) (bv : bV (τ.1 43 (12 * e + 10))) (hk : trS (5 * e + p) σ τ) (h : trF (5 * e + p) τ τ') (r : trR σ τ τ' had e p) : RNw τ' := by
  have hn0 := hn
  obtain ⟨nw, w1, w2, w3, w4⟩ := hn
  refine ⟨nw, w1, by rw [h.1]; exact w2, fun x hx => by rw [h.2.1 59 (by decide)]; exact w3 x hx, fun i hi => ?_⟩
  by_cases c : i = 5 * e + p
  · subst c
    unfold trR at r
    by_cases d : qDf σ τ e p = true
    · rw [if_pos d] at r
      by_cases b : qBg σ τ had e p = true
      · rw [if_pos b] at r
        have b1 := b
        unfold qBg at b1
        simp only [Bool.and_eq_true, decide_eq_true_eq] at b1
        obtain ⟨m, m1, m2, m3⟩ := qTk_is hs he hp (new := τ.1 43 (12 * e + p)) bv b1.2.2.2
        exact Or.inr ⟨nw, Nat.le_refl _, by rw [r.1, ← h54, w2], m, m1, m2, by rw [(r.2 b).1, m3]⟩
      · rw [if_neg b] at r
        exact Or.inl r.1
    · rw [if_neg d] at r
      rw [r.1, r.2.1, ← hk.1, ← hk.2.1]
      exact w4 _ hi
  · obtain ⟨q1, q2, -, -⟩ := h.2.2 i c
    rw [q1, q2]
    exact w4 i hi
abbrev qqL : Type := Nat × (Nat → Nat × Nat × Nat × Nat)
def RLs (T : qqT) (L : qqL) (σ : mS) : Prop := σ.2 70 = nI L.1 ∧ L.1 ≤ 6 ∧ ∀ k, k < L.1 → (σ.1 65 k = nI (L.2 k).1 ∧ (L.2 k).1 < Tn T) ∧ (σ.1 66 k = nI (L.2 k).2.1 ∧ (L.2 k).2.1 < 15) ∧ (σ.1 67 k = nI (L.2 k).2.2.1 ∧ (L.2 k).2.2.1 < Tn T) ∧ σ.1 68 k = nI (L.2 k).2.2.2 ∧ (L.2 k).2.2.2 < 8
section RST
variable {T : qqT} {G : qqG} {L : qqL} {σ : mS}
def trI (σ τ0 τ : mS) (had : Bool) (e p : Nat) : Prop := τ.2 = τ0.2 ∧ (∀ f, f ∉ [55, 56, 57, 58] → τ.1 f = τ0.1 f) ∧ (∀ i, i / 5 ≠ e → trS i τ0 τ) ∧ (∀ q, q < p → trR σ τ0 τ had e q) ∧ ∀ q, p ≤ q → q < 5 → trS (5 * e + q) σ τ
theorem trR_cg {τ0 τ τ' : mS} {had : Bool} {e q : Nat} (h43 : τ'.1 43 = τ0.1 43) (h44 : τ'.1 44 = τ0.1 44) (h45 : τ'.1 45 = τ0.1 45) (h : trS (5 * e + q) τ τ') : trR σ τ' τ' had e q = trR σ τ0 τ had e q := by
  have d : qDf σ τ' e q = qDf σ τ0 e q := by unfold qDf; rw [h43, h44, h45]
  have b : qBg σ τ' had e q = qBg σ τ0 had e q := by unfold qBg; rw [h43]
  unfold trR
  rw [d, b, h43, h.1, h.2.1, h.2.2.1, h.2.2.2]
theorem r_tr175 {e : Nat} (he : e < 30) {τ0 : mS} (had : Bool) (hs : RNw σ) (o : oldIs e σ τ0) (h85 : τ0.1 85 = σ.1 85) (h54 : τ0.2 54 = σ.2 54) (bv : bV (τ0.1 43 (12 * e + 10))) (x4 : Int32) : ∀ d m p τ, p + d = 5 → d < m → trI σ τ0 τ had e p → RNw τ → ∃ τ' m', f_restyle_175 m (nI e) (b2 had) x4 (nI p) τ = f_restyle_175 (m' + 1) (nI e) (b2 had) x4 (nI 5) τ' ∧ trI σ τ0 τ' had e 5 ∧ RNw τ' := by
  intro d
  induction d with
  | zero =>
    intro m p τ hp hm b hn
    obtain ⟨m, rfl⟩ : ∃ m', m = m' + 1 := ⟨m - 1, by omega⟩
    have hp : p = 5 := by omega
    subst hp
    exact ⟨τ, m, rfl, b, hn⟩
  | succ d ih =>
    intro m p τ hp hm b hn
    obtain ⟨m, rfl⟩ : ∃ m', m = m' + 1 := ⟨m - 1, by omega⟩
    obtain ⟨b1, b2, b3, b4, b5⟩ := b
    have o' : oldIs e σ τ := by unfold oldIs; rw [b2 82 (by decide), b2 83 (by decide), b2 84 (by decide)]; exact o
    have e43 := b2 43 (by decide)
    have hk := b5 p (Nat.le_refl _) (by omega)
    have e54 : τ.2 54 = σ.2 54 := by rw [b1, h54]
    obtain ⟨τ1, t1, t2, t3⟩ := r_transit he (show p < 5 by omega) had hn o' hk ((b2 85 (by decide)).trans h85) e54
    have n1 := RNw_trF (p := p) he (by omega) hn hs e54 (by rw [e43]; exact bv) hk t2 t3
    rw [f_restyle_175, if_neg (ge5 (by omega)), t1, qqx, nI_1]
    refine ih m (p + 1) τ1 (by omega) (by omega) ⟨t2.1.trans b1, fun f hf => (t2.2.1 f hf).trans (b2 f hf), fun i hi => ?_, fun q hq => ?_, fun q hq hq5 => ?_⟩ n1
    · obtain ⟨q1, q2, q3, q4⟩ := t2.2.2 i (by omega)
      obtain ⟨r1, r2, r3, r4⟩ := b3 i hi
      exact ⟨q1.trans r1, q2.trans r2, q3.trans r3, q4.trans r4⟩
    · by_cases c : q = p
      · subst c
        have := t3
        unfold trR qBg qDf at this ⊢
        rw [e43, b2 44 (by decide), b2 45 (by decide)] at this
        exact this
      · have := b4 q (by omega)
        obtain ⟨q1, q2, q3, q4⟩ := t2.2.2 (5 * e + q) (by omega)
        unfold trR at this ⊢
        rw [q1, q2, q3, q4]
        exact this
    · obtain ⟨q1, q2, q3, q4⟩ := t2.2.2 (5 * e + q) (by omega)
      obtain ⟨r1, r2, r3, r4⟩ := b5 q (by omega) hq5
      exact ⟨q1.trans r1, q2.trans r2, q3.trans r3, q4.trans r4⟩
def lxU (L : qqL) (σ σ' : mS) (had : Bool) (e k : Nat) : Bool := decide ((L.2 k).1 = e) && (had && qDf σ σ' e (L.2 k).2.1)
theorem r_lx {e : Nat} (he : e < 30) {τ0 : mS} (hT : Tw T) (had : Bool) (hl : RLs T L τ0) (o : oldIs e σ τ0) (ch : Bool) : ∀ d m k τ, k + d = L.1 → d < m → sB [69] [] τ0 τ → (∀ j, j < k → τ.1 69 j = if lxU L σ τ0 had e j = true then 1 else τ0.1 69 j) → (∀ j, k ≤ j → τ.1 69 j = τ0.1 69 j) → ∃ τ', f_restyle_260 m (nI e) (b2 had) (b2 ch) (nI k) τ = some (b2 ch, τ') ∧ sB [69] [] τ0 τ' ∧ ∀ j, j < L.1 → τ'.1 69 j = if lxU L σ τ0 had e j = true then 1 else τ0.1 69 j := by
  have h30 := hT.n30
  intro d
  induction d with
  | zero =>
    intro m k τ hk hm b h1 h2
    obtain ⟨m, rfl⟩ : ∃ m', m = m' + 1 := ⟨m - 1, by omega⟩
    have hk : k = L.1 := by omega
    subst hk
    rw [f_restyle_260, b.2 70 (by decide), hl.1, if_pos (Int32.le_refl _)]
    exact ⟨τ, (if_pos (b2_01 ch)), b, h1⟩
  | succ d ih =>
    intro m k τ hk hm b h1 h2
    obtain ⟨m, rfl⟩ : ∃ m', m = m' + 1 := ⟨m - 1, by omega⟩
    have hl6 := hl.2.1
    obtain ⟨⟨l1, l2⟩, ⟨l3, l4⟩, -, -⟩ := hl.2.2 k (by omega)
    have go : ∀ v, v = (if lxU L σ τ0 had e k = true then 1 else τ0.1 69 k) → ∃ τ', f_restyle_316 (f_restyle_260 m) (nI e) (b2 had) (b2 ch) (nI k) (nI k) v τ = some (b2 ch, τ') ∧ sB [69] [] τ0 τ' ∧ ∀ j, j < L.1 → τ'.1 69 j = if lxU L σ τ0 had e j = true then 1 else τ0.1 69 j := by
      intro v hv
      unfold f_restyle_316
      rw [wr_69 (by omega), qqx, nI_1]
      refine ih m (k + 1) _ (by omega) (by omega) (b.up (by decide)) (fun j hj => ?_) (fun j hj => ?_)
      · rw [up_s]
        by_cases c : j = k
        · subst c; rw [if_pos rfl]; exact hv
        · rw [if_neg c]; exact h1 j (by omega)
      · rw [up_s, if_neg (by omega)]; exact h2 j (by omega)
    have no : lxU L σ τ0 had e k = false → ∃ τ', f_restyle_309 (f_restyle_260 m) (nI e) (b2 had) (b2 ch) (nI k) (nI k) τ = some (b2 ch, τ') ∧ sB [69] [] τ0 τ' ∧ ∀ j, j < L.1 → τ'.1 69 j = if lxU L σ τ0 had e j = true then 1 else τ0.1 69 j := by
      intro h
      unfold f_restyle_309
      rw [rd_69 (by omega), qqx, h2 k (Nat.le_refl _)]
      exact go _ (by rw [h, if_neg (by decide)])
    have o' : oldIs e σ τ := by unfold oldIs; rw [b.1 82 (by decide), b.1 83 (by decide), b.1 84 (by decide)]; exact o
    have ed : qDf σ τ e (L.2 k).2.1 = qDf σ τ0 e (L.2 k).2.1 := by unfold qDf; rw [b.1 43 (by decide), b.1 44 (by decide), b.1 45 (by decide)]
    rw [f_restyle_260, b.2 70 (by decide), hl.1, if_neg (nI_ge (by omega) (by omega)), rd_65 (by omega), qqx, b.1 65 (by decide), l1, iqI (by omega) (by omega)]
    unfold lxU at no go
    by_cases c : (L.2 k).1 = e
    · rw [if_pos c, b2_i0]
      cases had with
      | false => rw [if_neg (by decide)]; exact no (by rw [Bool.false_and, Bool.and_false])
      | true =>
        rw [if_pos rfl, rd_66 (by omega), qqx, b.1 66 (by decide), l3, r_differs o' he l4, qqx, b2_i0, ed]
        by_cases f : qDf σ τ0 e (L.2 k).2.1 = true
        · rw [if_pos f]
          exact go 1 (by rw [f, decide_eq_true c]; rfl)
        · rw [if_neg f]
          exact no (by rw [Bool.not_eq_true _ |>.mp f, Bool.and_false, Bool.and_false])
    · rw [if_neg c]
      exact no (by rw [decide_eq_false c, Bool.false_and])
theorem r_rest20 {e : Nat} (he : e < 30) (x2 x3 : Int32) : ∀ d m p τ, p + d = 12 → d < m → sB [82] [] σ τ → (∀ q, q < p → τ.1 82 q = σ.1 43 (12 * e + q)) → ∃ τ', f_restyle_20 m (nI e) x2 x3 (nI p) τ = f_restyle_55 4000 (nI e) x2 x3 0 τ' ∧ sB [82] [] σ τ' ∧ ∀ q, q < 12 → τ'.1 82 q = σ.1 43 (12 * e + q) := by
  intro d
  induction d with
  | zero =>
    intro m p τ hp hm b h
    obtain ⟨m, rfl⟩ : ∃ m', m = m' + 1 := ⟨m - 1, by omega⟩
    have hp : p = 12 := by omega
    subst hp
    rw [f_restyle_20, if_pos (by decide)]
    exact ⟨τ, rfl, b, h⟩
  | succ d ih =>
    intro m p τ hp hm b h
    obtain ⟨m, rfl⟩ : ∃ m', m = m' + 1 := ⟨m - 1, by omega⟩
    rw [f_restyle_20, if_neg (ge12 (by omega)), show (12 : Int32) = nI 12 from rfl, pk_mul, nI_add, rd_43 (by omega), qqx, wr_82 (by omega), qqx, nI_1]
    refine ih m (p + 1) _ (by omega) (by omega) (b.up (by decide)) (fun q hq => ?_)
    rw [up_s]
    by_cases c : q = p
    · subst c; rw [if_pos rfl, b.1 43 (by decide)]
    · rw [if_neg c]; exact h q (by omega)
theorem r_rest55 {e : Nat} (he : e < 30) (x2 x3 : Int32) : ∀ d m v τ, v + d = 3 → d < m → sB [82, 83, 84] [] σ τ → (∀ q, q < 12 → τ.1 82 q = σ.1 43 (12 * e + q)) → (∀ q, q < v → τ.1 83 q = σ.1 44 (3 * e + q) ∧ τ.1 84 q = σ.1 45 (3 * e + q)) → ∃ τ' m', f_restyle_55 m (nI e) x2 x3 (nI v) τ = f_restyle_55 (m' + 1) (nI e) x2 x3 (nI 3) τ' ∧ sB [82, 83, 84] [] σ τ' ∧ oldIs e σ τ' := by
  intro d
  induction d with
  | zero =>
    intro m v τ hv hm b h82 h
    obtain ⟨m, rfl⟩ : ∃ m', m = m' + 1 := ⟨m - 1, by omega⟩
    have hv : v = 3 := by omega
    subst hv
    exact ⟨τ, m, rfl, b, h82, h⟩
  | succ d ih =>
    intro m v τ hv hm b h82 h
    obtain ⟨m, rfl⟩ : ∃ m', m = m' + 1 := ⟨m - 1, by omega⟩
    rw [f_restyle_55, if_neg (ge3 (by omega)), show (3 : Int32) = nI 3 from rfl, pk_mul, nI_add, rd_44 (by omega), qqx, wr_83 (by omega), qqx, rd_45 (by omega), qqx, wr_84 (by omega), qqx, nI_1]
    refine ih m (v + 1) _ (by omega) (by omega) ((b.up (by decide)).up (by decide)) (fun q hq => ?_) (fun q hq => ?_)
    · rw [up_o (by decide), up_o (by decide)]; exact h82 q hq
    · rw [up_o (show 83 ≠ 84 by decide), up_s, up_s]
      by_cases c : q = v
      · subst c; rw [if_pos rfl, if_pos rfl, up_o (show 45 ≠ 83 by decide), b.1 44 (by decide), b.1 45 (by decide)]; exact ⟨rfl, rfl⟩
      · rw [if_neg c, if_neg c, up_o (show 84 ≠ 83 by decide)]; exact h q (by omega)
end RST
