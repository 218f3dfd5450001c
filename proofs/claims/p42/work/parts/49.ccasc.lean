def bl (x : Int64) (i : Nat) : Bool := x.toBitVec.getLsbD i
theorem l_ext {x y : Int64} (h : ∀ i, i < 64 → bl x i = bl y i) : x = y := Int64.toBitVec_inj.mp (BitVec.eq_of_getLsbD_eq (fun i hi => h i hi))
theorem l_or (x y : Int64) (i : Nat) : bl (x ||| y) i = (bl x i || bl y i) := by unfold bl; rw [Int64.toBitVec_or, BitVec.getLsbD_or]
theorem l_and (x y : Int64) (i : Nat) : bl (x &&& y) i = (bl x i && bl y i) := by unfold bl; rw [Int64.toBitVec_and, BitVec.getLsbD_and]
theorem l_0 (i : Nat) : bl 0 i = false := BitVec.getLsbD_zero
theorem l_1 : ∀ i, i < 64 → bl 1 i = decide (i = 0) := by decide +kernel
theorem s_l64 : ∀ n, n < 64 → ((lN n &&& 63).toBitVec.smod 64).toNat = n := by decide +kernel
theorem l_shl (n : Nat) (hn : n < 64) (x : Int64) {i : Nat} (hi : i < 64) : bl (x <<< (lN n &&& 63)) i = (decide (n ≤ i) && bl x (i - n)) := by
  unfold bl
  rw [Int64.toBitVec_shiftLeft]
  show (x.toBitVec <<< ((lN n &&& 63).toBitVec.smod 64).toNat).getLsbD i = _
  rw [s_l64 n hn, BitVec.getLsbD_shiftLeft]
  rcases Nat.lt_or_ge i n with h | h
  · simp [h, Nat.not_le.mpr h]
  · simp [hi, h, Nat.not_lt.mpr h]
theorem l_sshr (n : Nat) (hn : n < 64) (x : Int64) {i : Nat} (hi : i < 64) : bl (x >>> (lN n &&& 63)) i = if n + i < 64 then bl x (n + i) else bl x 63 := by
  unfold bl
  rw [Int64.toBitVec_shiftRight]
  show (x.toBitVec.sshiftRight ((lN n &&& 63).toBitVec.smod 64).toNat).getLsbD i = _
  rw [s_l64 n hn, BitVec.getLsbD_sshiftRight, BitVec.msb_eq_getLsbD_last]
  simp [hi]
theorem l_one {k : Nat} (hk : k < 64) {i : Nat} (hi : i < 64) : bl ((1 : Int64) <<< (lN k &&& 63)) i = decide (i = k) := by
  rw [l_shl k hk 1 hi]
  by_cases h : k ≤ i
  · rw [decide_eq_true h, Bool.true_and, l_1 _ (by omega)]
    by_cases h2 : i = k
    · subst h2; simp
    · rw [decide_eq_false (by omega), decide_eq_false h2]
  · rw [decide_eq_false h, Bool.false_and, decide_eq_false (by omega)]
theorem l_ask (x : Int64) {k : Nat} (hk : k < 64) : (x >>> (lN k &&& 63)) &&& 1 = if bl x k = true then 1 else 0 := by
  apply l_ext
  intro i hi
  rw [l_and, l_1 i hi, l_sshr k hk x hi]
  by_cases h : i = 0
  · subst h
    simp only [Nat.add_zero, hk, if_true, decide_true, Bool.and_true]
    cases hb : bl x k with
    | true => simp only [if_true]; rw [l_1 0 (by decide)]; rfl
    | false => simp [l_0]
  · rw [decide_eq_false h, Bool.and_false]
    cases bl x k with
    | true => simp only [if_true]; rw [l_1 i hi, decide_eq_false h]
    | false => simp [l_0]
theorem l_cmp0 (x : Int64) {k : Nat} (hk : k < 64) {α : Sort _} (X Y : α) : (if lg_cmp ((x >>> (lN k &&& 63)) &&& 1) 0 = (0 : Int32) then X else Y) = if bl x k = true then Y else X := by
  rw [l_ask x hk]
  cases bl x k with
  | true => rw [if_pos rfl, if_pos rfl, if_neg (by decide)]
  | false => rw [if_neg (show ¬ (false = true) by decide), if_neg (show ¬ (false = true) by decide), if_pos (by decide)]
def bkr (a : Nat) : Nat × Nat := if a < 40 then (11, a) else (1, a - 40)
def KC (T : qqT) (G : qqG) (ex : Nat → Nat → Prop) (K : kS) (σ : mS) : Prop :=
  (∀ k, k < Gk G → ex 16 k ∧ K.1 16 k 0 = nI k ∧ K.1 16 k 1 = σ.1 27 k ∧ K.2 16 k 2 = ro 0 (Gsh G k) ∧ K.1 16 k 3 = σ.1 29 k ∧ K.1 16 k 4 = σ.1 30 k ∧ K.2 59 0 k = some (16, k)) ∧
  (∀ r, r < Gr G → (∀ k, 11 ≤ k → k ≤ 15 → ex k r) ∧ K.1 11 r 0 = nI r ∧ K.2 11 r 1 = some (16, Gsf G r) ∧ K.2 11 r 2 = some (17, Gse G r) ∧ K.1 11 r 3 = σ.1 27 (Gsf G r) ∧ K.1 11 r 4 = σ.1 34 r ∧ K.1 11 r 5 = σ.1 35 r ∧ K.2 11 r 8 = some (12, r) ∧ K.2 11 r 9 = some (13, r) ∧ K.2 11 r 10 = some (14, r) ∧ K.2 11 r 11 = some (15, r) ∧ K.2 11 r 14 = (if r + 1 < Gr G then some (11, r + 1) else none) ∧ K.2 60 0 r = some (11, r)) ∧
  (∀ e, e < Tn T → K.2 1 e 1 = none ∧ K.2 1 e 2 = none ∧ K.1 1 e 3 = 2 ∧ K.2 1 e 8 = some (2, e) ∧ K.2 1 e 9 = some (3, e) ∧ K.2 1 e 10 = some (4, e) ∧ K.2 1 e 11 = some (5, e)) ∧
  (K.1 58 0 4 = σ.2 31 ∧ K.1 58 0 5 = σ.2 36 ∧ K.1 58 0 8 = σ.2 50 ∧ K.2 58 0 6 = (if 0 < Gr G then some (11, 0) else none) ∧ K.2 58 0 7 = (if 0 < Gr G then some (11, Gr G - 1) else none)) ∧
  (∀ s, s < Gs G → ex 17 s ∧ K.1 17 s 6 = σ.1 20 s)
def KDr (K : kS) (σ : mS) (a : Nat) : Prop :=
  (∀ p, 15 ≤ p → p < 32 → bt (K.1 (bkr a).1 (bkr a).2 6) p = false) ∧ ∀ p, p < 15 → bt (K.1 (bkr a).1 (bkr a).2 6) p = Ldc σ p a ∧ (Ldc σ p a = true →
    bt (K.1 (bkr a).1 (bkr a).2 7) p = Lim σ p a ∧ K.1 ((bkr a).1 + 1) (bkr a).2 p = σ.1 37 (16 * a + p) ∧ ∃ u, u < 12 ∧ σ.1 37 (16 * a + p) = nI u ∧
      (u < 6 → K.1 ((bkr a).1 + 2) (bkr a).2 p = σ.1 38 (16 * a + p)) ∧
      (6 ≤ u → u < 11 → K.1 ((bkr a).1 + 2) (bkr a).2 p = 0) ∧
      (u = 11 → K.1 ((bkr a).1 + 3) (bkr a).2 p = σ.1 40 (16 * a + p) ∧ K.1 ((bkr a).1 + 4) (bkr a).2 p = σ.1 41 (16 * a + p) ∧ (∃ v, v < 3 ∧ σ.1 40 (16 * a + p) = nI (12 + v)) ∧
        ((σ.1 41 (16 * a + p) = -1) ∨ ∃ w, w < 7 ∧ σ.1 41 (16 * a + p) = nI w ∧ (w < 6 → K.1 ((bkr a).1 + 2) (bkr a).2 p = σ.1 42 (16 * a + p)) ∧ (w = 6 → K.1 ((bkr a).1 + 2) (bkr a).2 p = 0))))
def KPr (T : qqT) (G : qqG) (K : kS) (σ : mS) : Prop := ∀ r, r < Gr G → K.1 11 r 12 = dpo T (Gsh G (Gsf G r)) ∧ ∀ e, e < Tn T → bt (K.1 11 r 13) e = (Lst T G σ r && bt (σ.1 74 r) e)
section CC
variable {T : qqT} {G : qqG} {A : kA} {ex : Nat → Nat → Prop} {K : kS} {S : cS} {σ : mS}
theorem VR.bk {a : Nat} (h : VR T G a) (hc : RC T G σ) (t : KT T ex K) (c : KC T G ex K σ) : ex (bkr a).1 (bkr a).2 ∧ (kT (bkr a).1).1 = 6 := by
  have h40 := hc.r40
  unfold bkr VR at *
  by_cases h1 : a < 40
  · rw [if_pos h1]; exact ⟨(c.2.1 a (by omega)).1 11 (by decide) (by decide), rfl⟩
  · rw [if_neg h1]; exact ⟨t.E (k := 1) (e := a - 40) (by omega) (by decide), rfl⟩
def bka (A : kA) (a : Nat) : Nat := kp A (bkr a)
theorem bI {a : Nat} (h : KA A ex K S) (hv : VR T G a) (hc : RC T G σ) (t : KT T ex K) (c : KC T G ex K σ) (j : Nat) : gI S (some (bka A a)) 6 j = some (K.1 (bkr a).1 (bkr a).2 j) := h.I (bkr a).1 6 (hv.bk hc t c).1 (hv.bk hc t c).2
theorem bR {a : Nat} (h : KA A ex K S) (hv : VR T G a) (hc : RC T G σ) (t : KT T ex K) (c : KC T G ex K σ) (j : Nat) : gR S (some (bka A a)) 6 j = some ((K.2 (bkr a).1 (bkr a).2 j).map (kp A)) := h.R (bkr a).1 6 (hv.bk hc t c).1 (hv.bk hc t c).2
theorem bRc {a : Nat} (h : KA A ex K S) (hv : VR T G a) (hc : RC T G σ) (t : KT T ex K) (c : KC T G ex K σ) : rc S (some (bka A a)) 6 = some (bka A a) := h.Rc (bkr a).1 6 (hv.bk hc t c).1 (hv.bk hc t c).2
theorem bkr_lt {a : Nat} (h : a < 40) : bkr a = (11, a) := if_pos h
theorem bkr_ge {a : Nat} (h : ¬ a < 40) : bkr a = (1, a - 40) := if_neg h
theorem c_ask (x : Int32) {k : Nat} (hk : k < 32) {α : Sort _} (X Y : α) : (if ((x >>> (nI k &&& 31)) &&& (1 : Int32)) = (0 : Int32) then X else Y) = if bt x k = true then Y else X := by
  rw [b_ask x hk, b2_i0]
theorem c_declares (h : KA A ex K S) {a p : Nat} (hv : VR T G a) (hc : RC T G σ) (t : KT T ex K) (c : KC T G ex K σ) (d : KDr K σ a) (hp : p < 15) : f_X6_declares (bka A a) (nI p) S = some (b2 (Ldc σ p a)) := by
  unfold f_X6_declares
  rw [bI h hv hc t c, qqx, c_ask _ (by omega), (d.2 p hp).1]
  cases Ldc σ p a <;> rfl
theorem c_holds1 (h : KA A ex K S) (p9 : KP ex K) (hc : RC T G σ) (t : KT T ex K) (c : KC T G ex K σ) {r : Nat} (hr : r < Gr G) {hh : Option Nat} {o : Option Int32} (ho : match hh with
    | none => o = none
    | some y => gI S (some y) 9 2 = o) (hon : hh.isSome = true → o.isSome = true) : f_X1_holds (A 58 0) (some (A 11 r)) hh S = some (b2 (Lfit σ o r)) := by
  have hx := (c.2.1 r hr).1 11 (by decide) (by decide)
  have c4 := (c.2.1 r hr).2.2.2.2.2.1
  have c5 := (c.2.1 r hr).2.2.2.2.2.2.1
  unfold f_X1_holds Lfit
  rw [h.I 11 6 hx rfl, c4, qqx, h.I 11 6 hx rfl, c5, p9.I58 h, c.2.2.2.1.2.2.1]
  by_cases z0 : σ.1 34 r = 0
  · rw [if_pos z0, if_pos z0, qqx, qqx]
    by_cases z : σ.2 50 < σ.1 35 r
    · rw [if_pos z, decide_eq_false (Int32.not_le.mpr z)]; rfl
    · rw [if_neg z, decide_eq_true (Int32.not_lt.mp z)]; rfl
  · rw [if_neg z0, if_neg z0]
    by_cases z1 : σ.1 34 r = 1
    · rw [if_pos z1, if_pos z1, qqx, qqx]
      by_cases z : σ.1 35 r < σ.2 50
      · rw [if_pos z, decide_eq_false (Int32.not_le.mpr z)]; rfl
      · rw [if_neg z, decide_eq_true (Int32.not_lt.mp z)]; rfl
    · rw [if_neg z1, if_neg z1]
      by_cases z2 : σ.1 34 r = 2
      · rw [if_pos z2, if_pos z2]
        cases hh with
        | none => rw [if_pos rfl, show o = none from ho]; rfl
        | some y =>
          cases o with
          | none => exact absurd (hon rfl) (by decide)
          | some w =>
            rw [if_neg (fun z => by cases z), show gI S (some y) 9 2 = some w from ho, qqx, qqx]
            show _ = some (b2 (decide (σ.1 35 r ≤ w)))
            by_cases z : w < σ.1 35 r
            · rw [if_pos z, decide_eq_false (Int32.not_le.mpr z)]; rfl
            · rw [if_neg z, decide_eq_true (Int32.not_lt.mp z)]; rfl
      · rw [if_neg z2, if_neg z2]
        by_cases z3 : σ.1 34 r = 3
        · rw [if_pos z3, if_pos z3]
          cases hh with
          | none => rw [if_pos rfl, show o = none from ho]; rfl
          | some y =>
            cases o with
            | none => exact absurd (hon rfl) (by decide)
            | some w =>
              rw [if_neg (fun z => by cases z), show gI S (some y) 9 2 = some w from ho, qqx, qqx]
              show _ = some (b2 (decide (w ≤ σ.1 35 r)))
              by_cases z : σ.1 35 r < w
              · rw [if_pos z, decide_eq_false (Int32.not_le.mpr z)]; rfl
              · rw [if_neg z, decide_eq_true (Int32.not_lt.mp z)]; rfl
        · rw [if_neg z3, if_neg z3]
          by_cases z4 : σ.1 34 r = 4
          · rw [if_pos z4, if_pos z4, qqx]
            by_cases z : σ.1 35 r < 0
            · rw [if_pos z, decide_eq_false (fun q => absurd q.1 (Int32.not_le.mpr z))]; rfl
            · rw [if_neg z, qqx]
              by_cases z5 : (15 : Int32) ≤ σ.1 35 r
              · rw [if_pos z5, decide_eq_false (fun q => by
                  have q2 := q.2
                  rw [Int32.le_iff_toInt_le] at q2 z5
                  have e1 : (14 : Int32).toInt = 14 := by decide
                  have e2 : (15 : Int32).toInt = 15 := by decide
                  omega)]; rfl
              · rw [if_neg z5, decide_eq_true ⟨Int32.not_lt.mp z, by
                  have z6 := Int32.not_le.mp z5
                  rw [Int32.lt_iff_toInt_lt] at z6
                  rw [Int32.le_iff_toInt_le]
                  have e1 : (14 : Int32).toInt = 14 := by decide
                  have e2 : (15 : Int32).toInt = 15 := by decide
                  omega⟩]; rfl
          · rw [if_neg z4, if_neg z4]; rfl
theorem KC.nx (h : KA A ex K S) (c : KC T G ex K σ) {r : Nat} (hr : r < Gr G) : gR S (some (A 11 r)) 6 14 = some (if r + 1 < Gr G then some (A 11 (r + 1)) else none) := by
  rw [h.R 11 6 ((c.2.1 r hr).1 11 (by decide) (by decide)) rfl, (c.2.1 r hr).2.2.2.2.2.2.2.2.2.2.2.1]
  by_cases z : r + 1 < Gr G
  · rw [if_pos z, if_pos z]; rfl
  · rw [if_neg z, if_neg z]; rfl
theorem KC.first (h : KA A ex K S) (p9 : KP ex K) (c : KC T G ex K σ) : gR S (some (A 58 0)) 1 6 = some (if 0 < Gr G then some (A 11 0) else none) := by
  rw [h.R 58 1 (p9.x (by decide) (by decide) (by decide)) rfl, c.2.2.2.1.2.2.2.1]
  by_cases z : 0 < Gr G
  · rw [if_pos z, if_pos z]; rfl
  · rw [if_neg z, if_neg z]; rfl
theorem c_applying_8 (h : KA A ex K S) (p9 : KP ex K) (hc : RC T G σ) (t : KT T ex K) (c : KC T G ex K σ) (pr : KPr T G K σ) (hw : Tw T) {e : Nat} (he : e < Tn T) {hh : Option Nat} {o : Option Int32} (ho : match hh with
    | none => o = none
    | some y => gI S (some y) 9 2 = o) (hon : hh.isSome = true → o.isSome = true) : ∀ d m k (x : Int64), k + d = Gr G → d < m → (∀ i, i < 64 → bl x i = (decide (i < k) && Lap T G σ o e i)) → ∃ x', f_X1_applying_8 (A 58 0) m (some (A 0 e)) hh x (if k < Gr G then some (A 11 k) else none) S = some x' ∧ ∀ i, i < 64 → bl x' i = (decide (i < Gr G) && Lap T G σ o e i) := by
  have h30 := hw.n30
  have h40 := hc.r40
  intro d
  induction d with
  | zero =>
    intro m k x hk hm hx
    obtain ⟨m, rfl⟩ : ∃ m', m = m' + 1 := ⟨m - 1, by omega⟩
    have hk : k = Gr G := by omega
    subst hk
    rw [f_X1_applying_8, if_neg (show ¬ Gr G < Gr G from Nat.lt_irrefl _), if_pos rfl]
    exact ⟨x, rfl, hx⟩
  | succ d ih =>
    intro m k x hk hm hx
    obtain ⟨m, rfl⟩ : ∃ m', m = m' + 1 := ⟨m - 1, by omega⟩
    have hkr : k < Gr G := by omega
    have hxk := (c.2.1 k hkr).1 11 (by decide) (by decide)
    have e48 : ∀ y : Int64, f_X1_applying_48 (fun z0 z1 z2 z3 => f_X1_applying_8 (A 58 0) m z0 z1 z2 z3 S) (A 58 0) (some (A 0 e)) hh y (some (A 11 k)) S = f_X1_applying_8 (A 58 0) m (some (A 0 e)) hh y (if k + 1 < Gr G then some (A 11 (k + 1)) else none) S := by
      intro y
      unfold f_X1_applying_48
      rw [c.nx h hkr, qqx]
    have fin : ∀ y : Int64, (∀ i, i < 64 → bl y i = (decide (i < k + 1) && Lap T G σ o e i)) → ∃ x', f_X1_applying_8 (A 58 0) m (some (A 0 e)) hh y (if k + 1 < Gr G then some (A 11 (k + 1)) else none) S = some x' ∧ ∀ i, i < 64 → bl x' i = (decide (i < Gr G) && Lap T G σ o e i) := fun y hy => ih m (k + 1) y (by omega) (by omega) hy
    have keep : Lap T G σ o e k = false → ∀ i, i < 64 → bl x i = (decide (i < k + 1) && Lap T G σ o e i) := by
      intro hl i hi
      rw [hx i hi]
      by_cases hik : i = k
      · subst hik; simp [hl]
      · by_cases h1 : i < k
        · rw [decide_eq_true h1, decide_eq_true (show i < k + 1 by omega)]
        · rw [decide_eq_false h1, decide_eq_false (show ¬ i < k + 1 by omega)]
    have hcls := c_holds1 h p9 hc t c hkr ho hon
    rw [f_X1_applying_8, if_pos hkr, if_neg (fun z => by cases z), h.I 11 6 hxk rfl, qqx, t.gn h he, qqx, c_ask _ (by omega), ((pr k hkr).2 e he)]
    by_cases z1 : (Lst T G σ k && bt (σ.1 74 k) e) = true
    · rw [if_pos z1, p9.r1 h, qqx, hcls, qqx, b2_i0]
      simp only [Bool.and_eq_true] at z1
      by_cases z2 : Lfit σ o k = true
      · rw [if_pos z2, h.I 11 6 hxk rfl, (c.2.1 k hkr).2.1, qqx, e48, nI_l (by omega)]
        refine fin _ (fun i hi => ?_)
        rw [l_or, l_one (by omega) hi, hx i hi]
        by_cases hik : i = k
        · subst hik
          have : Lap T G σ o e i = true := by unfold Lap; rw [z1.1, z1.2, z2]; rfl
          simp [this]
        · by_cases h1 : i < k
          · rw [decide_eq_true h1, decide_eq_true (show i < k + 1 by omega), decide_eq_false hik, Bool.or_false]
          · rw [decide_eq_false h1, decide_eq_false (show ¬ i < k + 1 by omega), decide_eq_false hik]; rfl
      · rw [if_neg z2, e48]
        exact fin _ (keep (by unfold Lap; rw [Bool.not_eq_true _ |>.mp z2]; simp))
    · rw [if_neg z1, e48]
      refine fin _ (keep ?_)
      unfold Lap
      cases q1 : bt (σ.1 74 k) e with
      | false => rfl
      | true =>
        cases q2 : Lst T G σ k with
        | false => rfl
        | true => rw [q1, q2] at z1; exact absurd rfl z1
theorem c_applying (h : KA A ex K S) (p9 : KP ex K) (hc : RC T G σ) (t : KT T ex K) (c : KC T G ex K σ) (pr : KPr T G K σ) (hw : Tw T) {e : Nat} (he : e < Tn T) {hh : Option Nat} {o : Option Int32} (ho : match hh with
    | none => o = none
    | some y => gI S (some y) 9 2 = o) (hon : hh.isSome = true → o.isSome = true) : ∃ x, f_X1_applying (A 58 0) (some (A 0 e)) hh S = some x ∧ ∀ i, i < 64 → bl x i = (decide (i < Gr G) && Lap T G σ o e i) := by
  unfold f_X1_applying
  rw [c.first h p9, qqx]
  exact c_applying_8 h p9 hc t c pr hw he ho hon (Gr G) 4000 0 0 (by omega) (by have := hc.r40; omega) (fun i _ => by rw [l_0]; simp)
end CC
