/-! MATHS, 68: a frame of an animation -/
def sN (f : Nat → Nat) : Nat → Nat
  | 0 => 0
  | n + 1 => sN f n + f n
theorem sN_cg {f g : Nat → Nat} : ∀ {n : Nat}, (∀ i, i < n → f i = g i) → sN f n = sN g n := by
  intro n
  induction n with
  | zero => intro _; rfl
  | succ n ih => intro h; show sN f n + f n = sN g n + g n; rw [ih (fun i hi => h i (by omega)), h n (by omega)]
theorem sN_add (f : Nat → Nat) (a : Nat) : ∀ b, sN f (a + b) = sN f a + sN (fun i => f (a + i)) b := by
  intro b
  induction b with
  | zero => rfl
  | succ b ih => show sN f (a + b) + f (a + b) = sN f a + (sN (fun i => f (a + i)) b + f (a + b)); rw [ih, Nat.add_assoc]
theorem sN_mul (f : Nat → Nat) (m : Nat) : ∀ n, sN f (m * n) = sN (fun p => sN (fun t => f (m * p + t)) m) n := by
  intro n
  induction n with
  | zero => rfl
  | succ n ih => rw [Nat.mul_succ, sN_add, ih]; rfl
/-- a number by its bits, the lowest first -/
def lBN : (Nat → Bool) → Nat → Nat
  | _, 0 => 0
  | P, m + 1 => (P 0).toNat + 2 * lBN (fun i => P (i + 1)) m
theorem lBN_lt : ∀ (m : Nat) (P : Nat → Bool), lBN P m < 2 ^ m := by
  intro m
  induction m with
  | zero => intro P; exact Nat.one_pos
  | succ m ih =>
    intro P
    have := ih (fun i => P (i + 1))
    have hb : (P 0).toNat ≤ 1 := by cases P 0 <;> decide
    show (P 0).toNat + 2 * lBN (fun i => P (i + 1)) m < 2 ^ (m + 1)
    rw [Nat.pow_succ]; omega
theorem pc_lBN : ∀ (m : Nat) (P : Nat → Bool), pcN m (lBN P m) = sN (fun i => (P i).toNat) m := by
  intro m
  induction m with
  | zero => intro P; rfl
  | succ m ih =>
    intro P
    have hb : (P 0).toNat ≤ 1 := by cases P 0 <;> decide
    have e1 : ((P 0).toNat + 2 * lBN (fun i => P (i + 1)) m) % 2 = (P 0).toNat := by omega
    have e2 : ((P 0).toNat + 2 * lBN (fun i => P (i + 1)) m) / 2 = lBN (fun i => P (i + 1)) m := by omega
    show ((P 0).toNat + 2 * lBN (fun i => P (i + 1)) m) % 2 + pcN m (((P 0).toNat + 2 * lBN (fun i => P (i + 1)) m) / 2) = _
    rw [e1, e2, ih, Nat.add_comm m 1, sN_add (fun i => (P i).toNat) 1 m]
    show (P 0).toNat + _ = (0 + (P 0).toNat) + _
    rw [Nat.zero_add]
    exact congrArg ((P 0).toNat + ·) (sN_cg (fun i _ => by rw [Nat.add_comm]))
theorem lBN_bit : ∀ (m : Nat) (P : Nat → Bool) (i : Nat), (lBN P m).testBit i = (decide (i < m) && P i) := by
  intro m
  induction m with
  | zero => intro P i; show Nat.testBit 0 i = _; rw [Nat.zero_testBit]; rfl
  | succ m ih =>
    intro P i
    have hb : (P 0).toNat ≤ 1 := by cases P 0 <;> decide
    show ((P 0).toNat + 2 * lBN (fun i => P (i + 1)) m).testBit i = _
    cases i with
    | zero =>
      rw [Nat.testBit_zero]
      have e1 : ((P 0).toNat + 2 * lBN (fun i => P (i + 1)) m) % 2 = (P 0).toNat := by omega
      rw [e1]
      cases P 0 <;> rfl
    | succ i =>
      rw [Nat.testBit_succ, show ((P 0).toNat + 2 * lBN (fun i => P (i + 1)) m) / 2 = lBN (fun i => P (i + 1)) m by omega, ih]
      by_cases c : i < m
      · rw [decide_eq_true c, decide_eq_true (show i + 1 < m + 1 by omega)]
      · rw [decide_eq_false c, decide_eq_false (show ¬ i + 1 < m + 1 by omega)]
theorem bt_nI (n i : Nat) : bt (nI n) i = (decide (i < 32) && n.testBit i) := by
  show (BitVec.ofNat 32 n).getLsbD i = _
  rw [BitVec.getLsbD_ofNat]
/-- how many are set of a word whose bits from 15 on are not -/
theorem c_bitsOf {x : Int32} {P : Nat → Bool} (h : ∀ i, i < 32 → bt x i = (decide (i < 15) && P i)) : f_J6_bitCount_0f7a4 x = some (nI (sN (fun i => (P i).toNat) 15)) := by
  have e : x = nI (lBN P 15) := b_ext (fun i hi => by rw [h i hi, bt_nI, lBN_bit, decide_eq_true hi, Bool.true_and])
  rw [e, c_bitCount (lBN_lt 15 P), pc_lBN]
section FRM
variable {T : qqT} {G : qqG} {L : qqL} {A : kA} {ex : Nat → Nat → Prop} {K K' : kS} {S S' : cS} {σ σ' : mS} {v v' nw k : Nat}
theorem r_frame_101 (ra : RAn σ) {a : Nat} (ha : a < 4) : ∀ d i m, i + d = 55 → d < m → f_frame_101 m (nI a) (nI (sN (fun i => (decide (σ.1 63 (55 * a + i) = 1)).toNat) i)) (nI i) σ = some (nI (sN (fun i => (decide (σ.1 63 (55 * a + i) = 1)).toNat) 55), σ) := by
  intro d
  induction d with
  | zero =>
    intro i m hi hm
    obtain ⟨m, rfl⟩ : ∃ m', m = m' + 1 := ⟨m - 1, by omega⟩
    have : i = 55 := by omega
    subst this
    rw [f_frame_101, if_pos (show (55 : Int32) ≤ nI 55 by decide)]
  | succ d ih =>
    intro i m hi hm
    obtain ⟨m, rfl⟩ : ∃ m', m = m' + 1 := ⟨m - 1, by omega⟩
    obtain ⟨⟨b, hb⟩, -⟩ := ra.2 (55 * a + i) (by omega)
    rw [f_frame_101, if_neg (show ¬ (55 : Int32) ≤ nI i from nI_ge (b := 55) (by omega) (by decide)), show (55 : Int32) = nI 55 from rfl, pk_mul, nI_add, rd_63 (by omega), qqx, nI_1]
    have e : nI (sN (fun i => (decide (σ.1 63 (55 * a + i) = 1)).toNat) i) + σ.1 63 (55 * a + i) = nI (sN (fun i => (decide (σ.1 63 (55 * a + i) = 1)).toNat) (i + 1)) := by
      show _ = nI (sN (fun i => (decide (σ.1 63 (55 * a + i) = 1)).toNat) i + (decide (σ.1 63 (55 * a + i) = 1)).toNat)
      rw [← nI_add, hb]
      cases b <;> rfl
    rw [e]
    exact ih (i + 1) m (by omega) (by omega)
theorem c_countFrames (p9 : KP ex K) (hA : KA A ex K S) (an : anEq K σ) {a : Nat} (ha : a < 4) : f_X0_countFrames (A 34 a) S = some (nI (sN (fun i => (decide (σ.1 63 (55 * a + i) = 1)).toNat) 55)) := by
  have g4 : gR S (some (A 34 a)) 0 4 = some (some (A 37 a)) := by rw [hA.R 34 0 (p9.1.2.2.1 a ha).1 rfl, (p9.2.2.2.2.1 a ha).2.2.1]; rfl
  have key : ∀ d p m, p + d = 5 → d < m → f_X0_countFrames_4 (A 34 a) m (nI (sN (fun i => (decide (σ.1 63 (55 * a + i) = 1)).toNat) (11 * p))) (nI p) S = some (nI (sN (fun i => (decide (σ.1 63 (55 * a + i) = 1)).toNat) 55)) := by
    intro d
    induction d with
    | zero =>
      intro p m hp hm
      obtain ⟨m, rfl⟩ : ∃ m', m = m' + 1 := ⟨m - 1, by omega⟩
      have : p = 5 := by omega
      subst this
      rw [f_X0_countFrames_4, if_pos (show (5 : Int32) ≤ nI 5 by decide)]
    | succ d ih =>
      intro p m hp hm
      obtain ⟨m, rfl⟩ : ∃ m', m = m' + 1 := ⟨m - 1, by omega⟩
      have hb := ((an a ha).2.2.2 p (by omega)).1
      have ec := c_bitsOf (x := K.1 37 a p) (P := fun t => decide (t < 11) && aSt σ a p t) (fun i hi => by
        rw [hb i hi]
        by_cases c : i < 11
        · rw [decide_eq_true (show i < 15 by omega), Bool.true_and]
        · rw [decide_eq_false c, Bool.false_and, Bool.and_false])
      rw [f_X0_countFrames_4, if_neg (show ¬ (5 : Int32) ≤ nI p from nI_ge (b := 5) (by omega) (by decide)), g4, qqx, hA.AI 37 5 (p9.1.2.2.1 a ha).2.2 rfl (by omega), qqx, ec, qqx, nI_add, nI_1]
      have e : sN (fun i => (decide (σ.1 63 (55 * a + i) = 1)).toNat) (11 * p) + sN (fun i => (decide (i < 11) && aSt σ a p i).toNat) 15 = sN (fun i => (decide (σ.1 63 (55 * a + i) = 1)).toNat) (11 * (p + 1)) := by
        rw [Nat.mul_succ, sN_add, show 15 = 11 + 4 from rfl, sN_add (fun i => (decide (i < 11) && aSt σ a p i).toNat) 11 4]
        have z : sN (fun i => (decide (11 + i < 11) && aSt σ a p (11 + i)).toNat) 4 = 0 := by
          have : sN (fun i => (decide (11 + i < 11) && aSt σ a p (11 + i)).toNat) 4 = sN (fun _ => 0) 4 := sN_cg (fun i _ => by rw [decide_eq_false (by omega)]; rfl)
          rw [this]; rfl
        rw [z, Nat.add_zero]
        exact congrArg (sN (fun i => (decide (σ.1 63 (55 * a + i) = 1)).toNat) (11 * p) + ·) (sN_cg (fun i hi => by rw [decide_eq_true hi, Bool.true_and]; unfold aSt; rw [Nat.add_assoc]))
      rw [e]
      exact ih (p + 1) m (by omega) (by omega)
  have := key 5 0 4000 rfl (by decide)
  exact this
theorem simJ_frame : sim_frame (J k) (J (k + 1)) := by
  intro S σ a1 a2 a3 a4 h
  obtain ⟨T, G, L, A, ex, K, v, nw, w⟩ := h
  obtain ⟨⟨hw, hA, hin⟩, h49, -, j⟩ := id w
  have q := j.1.1
  refine at49 (P := fun x => sJR [0] lvN (J (k + 1)) (f_X11_frame x a1 a2 a3 a4 S) (f_frame a1 a2 a3 a4 σ)) h49 ?_
  unfold f_X11_frame f_frame f_frame_51 f_X11_frame_37
  have no : ∀ S', S' = S → sJR [0] lvN (J (k + 1)) (some ((.inl 0 : Nat ⊕ Int32), S')) (f_frame_52 a1 a2 a3 a4 1 σ) := by
    rintro _ rfl
    unfold f_frame_52
    rw [r_holds1, qqx]
    exact sJR.l rfl (w.no 1)
  rw [q.2.1.r11 hA, qqx, r_in0 a1 (n := 4) (by decide) (by decide), qqx, r_in0 a2 (n := 5) (by decide) (by decide), qqx, r_in0 a3 (n := 11) (by decide) (by decide), qqx, r_in, qqx]
  rcases ix_cases a1 (n := 4) (by decide) with ⟨a, ha, rfl⟩ | hx
  · rw [c_animY q.2.1 hA ha, qqx, if_neg (fun z => by cases z), if_dt (nI_inn ha (by decide))]
    show sJR _ _ _ ((f_X11_isBelow a2 (nI 5)).bind (fun v3 => if v3 = 0 then _ else ((f_X11_isBelow a3 (nI 11)).bind _))) _
    rw [c_isBelow, qqx, c_isBelow, qqx, c_isNumber, qqx]
    rcases ix_cases a2 (n := 5) (by decide) with ⟨p, hp, rfl⟩ | hx
    · rw [if_dt (nI_inn hp (by decide)), if_dt (nI_inn hp (by decide))]
      rcases ix_cases a3 (n := 11) (by decide) with ⟨t, ht, rfl⟩ | hx
      · rw [if_dt (nI_inn ht (by decide)), if_dt (nI_inn ht (by decide))]
        by_cases c : -9999 ≤ a4 ∧ a4 ≤ 9999
        · rw [if_dt c, if_dt c]
          obtain ⟨x34, x35, x37⟩ := q.2.1.1.2.2.1 a ha
          have x36 : ex 36 (5 * a + p) := q.2.1.1.2.2.2.1 _ (by omega)
          obtain ⟨l1, l2, l3, l4⟩ := q.2.1.2.2.2.2.1 a ha
          obtain ⟨S1, e1, h1⟩ := hA.SI (k := 36) (i := 5 * a + p) (N := 11) (j := t) x36 rfl (by decide) ht a4
          obtain ⟨S2, e2, h2⟩ := h1.SI (k := 37) (i := a) (N := 5) (j := p) x37 rfl (by decide) hp (K.1 37 a p ||| ((1 : Int32) <<< (nI t &&& 31)))
          have b : kB anI F3 K (kwI (kwI K 36 (5 * a + p) t a4) 37 a p (K.1 37 a p ||| ((1 : Int32) <<< (nI t &&& 31)))) := ((kB.rf K).I (Or.inr (Or.inl rfl))).I (Or.inr (Or.inr rfl))
          have h220 : 55 * a + 11 * p + t < 220 := by omega
          have s : sB [60, 61, 62, 63, 64] [] (sf σ 81 0) (up (up (sf σ 81 0) 63 (55 * a + 11 * p + t) 1) 64 (55 * a + 11 * p + t) a4) := ((sB.rf _).up (by simp)).up (by simp)
          have j0 := j.scR (scR_sf σ 0)
          obtain ⟨⟨r1, r2⟩, an⟩ : RAn (sf σ 81 0) ∧ anEq K (sf σ 81 0) := ⟨j0.2.2.1.1, j0.2.2.1.2.1⟩
          have s63 : ∀ i, (up (up (sf σ 81 0) 63 (55 * a + 11 * p + t) 1) 64 (55 * a + 11 * p + t) a4).1 63 i = if i = 55 * a + 11 * p + t then 1 else (sf σ 81 0).1 63 i := fun i => by rw [up_o (by decide), up_s]
          have s64 : ∀ i, (up (up (sf σ 81 0) 63 (55 * a + 11 * p + t) 1) 64 (55 * a + 11 * p + t) a4).1 64 i = if i = 55 * a + 11 * p + t then a4 else (sf σ 81 0).1 64 i := fun i => by rw [up_s, up_o (by decide)]
          have s6 : ∀ f, f ∈ [60, 61, 62] → (up (up (sf σ 81 0) 63 (55 * a + 11 * p + t) 1) 64 (55 * a + 11 * p + t) a4).1 f = (sf σ 81 0).1 f := fun f hf => by rw [up_o (by revert f; decide), up_o (by revert f; decide)]
          have ra : RAn (up (up (sf σ 81 0) 63 (55 * a + 11 * p + t) 1) 64 (55 * a + 11 * p + t) a4) := by
            refine ⟨fun x hx => by rw [s6 60 (by decide), s6 61 (by decide), s6 62 (by decide)]; exact r1 x hx, fun i hi => ?_⟩
            rw [s63, s64]
            by_cases z : i = 55 * a + 11 * p + t
            · rw [if_pos z, if_pos z]
              refine ⟨⟨true, rfl⟩, fun _ => ?_⟩
              unfold sm
              have c1 := Int32.le_iff_toInt_le.mp c.1
              have c2 := Int32.le_iff_toInt_le.mp c.2
              rw [show (-9999 : Int32).toInt = -9999 by decide] at c1
              rw [show (9999 : Int32).toInt = 9999 by decide] at c2
              exact ⟨c1, c2⟩
            · rw [if_neg z, if_neg z]; exact r2 i hi
          have an' : anEq (kwI (kwI K 36 (5 * a + p) t a4) 37 a p (K.1 37 a p ||| ((1 : Int32) <<< (nI t &&& 31)))) (up (up (sf σ 81 0) 63 (55 * a + 11 * p + t) 1) 64 (55 * a + 11 * p + t) a4) := by
            intro x hx
            obtain ⟨n1, n2, n3, n4⟩ := an x hx
            rw [s6 60 (by decide), s6 61 (by decide), s6 62 (by decide), kwI_row (by omega), kwI_row (by omega), kwI_row (by omega), kwI_row (by omega), kwI_row (by omega), kwI_row (by omega)]
            refine ⟨n1, n2, n3, fun y hy => ?_⟩
            obtain ⟨m1, m2⟩ := n4 y hy
            refine ⟨fun i hi2 => ?_, fun i hi => ?_⟩
            · unfold aSt
              rw [s63]
              by_cases z : x = a ∧ y = p
              · obtain ⟨rfl, rfl⟩ := z
                rw [kwI_s, b_or, m1 i hi2, b_one (by omega) hi2]
                unfold aSt
                by_cases zi : i = t
                · rw [if_pos (by rw [zi]), decide_eq_true zi, Bool.or_true, decide_eq_true (show i < 11 by omega)]; rfl
                · rw [if_neg (by omega), decide_eq_false zi, Bool.or_false]
              · rw [kwI_row (fun w => z ⟨w.2.1, w.2.2⟩), kwI_k (by decide), m1 i hi2]
                unfold aSt
                by_cases zi : i < 11
                · rw [if_neg (by omega)]
                · rw [decide_eq_false zi, Bool.false_and, Bool.false_and]
            · unfold aSt aFn
              rw [s63, s64, kwI_k (by decide)]
              by_cases z : x = a ∧ y = p ∧ i = t
              · obtain ⟨rfl, rfl, rfl⟩ := z
                intro _
                rw [kwI_s, if_pos rfl]
              · rw [if_neg (by omega), if_neg (by omega), kwI_row (by omega)]
                exact m2 i hi
          have j1 : J0 T G L ex _ _ v := j0.an b s ra an'
          have q1 := j1.1.1
          have g3 : gR S (some (A 34 a)) 0 3 = some (some (A 35 a)) := by rw [hA.R 34 0 x34 rfl, l2]; rfl
          have g35 : aR S (some (A 35 a)) 50 (nI p) = some (some (A 36 (5 * a + p))) := by rw [hA.AR 35 50 5 x35 rfl hp, l4 p hp]; rfl
          have g4 : gR S1 (some (A 34 a)) 0 4 = some (some (A 37 a)) := by
            rw [h1.R 34 0 x34 rfl]
            show some ((K.2 34 a 4).map (kp A)) = _
            rw [l3]; rfl
          have g37 : aI S1 (some (A 37 a)) (nI p) = some (K.1 37 a p) := by rw [h1.AI 37 5 x37 rfl hp, kwI_k (by decide)]
          have en : f_X0_enter (A 34 a) (nI p) (nI t) a4 S = some S2 := by
            unfold f_X0_enter f_X0_enter_38
            rw [show (5 : Int32) = nI 5 from rfl, show (11 : Int32) = nI 11 from rfl, c_isBelow, qqx, if_dt (nI_inn hp (by decide)), c_isBelow, qqx, if_dt (nI_inn ht (by decide)), g3, qqx, g35, qqx, e1, qqx, g4, qqx, g37, qqx, e2, qqx]
          have ei : (55 : Int32) * nI a + (11 : Int32) * nI p + nI t = nI (55 * a + 11 * p + t) := by rw [show (55 : Int32) = nI 55 from rfl, show (11 : Int32) = nI 11 from rfl, pk_mul, pk_mul, nI_add, nI_add]
          unfold f_frame_52
          rw [hA.Rc 34 0 x34 rfl, qqx, en, qqx, h2.Rc 34 0 x34 rfl, qqx, c_countFrames q1.2.1 h2 an' ha, qqx, r_holds0, qqx, if_pos rfl, ei, wr_63 (by omega), qqx, wr_64 (by omega), qqx]
          have lp := r_frame_101 ra ha 55 0 4000 rfl (by decide)
          have lp' : f_frame_101 4000 (nI a) 0 0 (up (up (sf σ 81 0) 63 (55 * a + 11 * p + t) 1) 64 (55 * a + 11 * p + t) a4) = _ := lp
          rw [lp']
          exact sJR.r rfl rfl (w.to h2 (hin.kp b (fun i j => by unfold anI; omega)) j1 (by omega) rfl)
        · rw [if_df c, if_df c]; exact no _ rfl
      · rw [if_df hx, if_df hx]; exact no _ rfl
    · rw [if_df hx, if_df hx]; exact no _ rfl
  · rw [c_animN hx, qqx, if_pos rfl, if_df hx]; exact no _ rfl
end FRM
