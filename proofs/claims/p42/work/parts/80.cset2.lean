section CS3
variable {T : qqT} {G : qqG} {A : kA} {ex : Nat → Nat → Prop} {K : kS} {S : cS} {σ : mS} {h : Option Nat}
def kTr (h : Option Nat) : Nat := match h with
  | none => 30
  | some q => q
theorem qqM_and (f g : Nat → Bool) {n : Nat} (hn : n ≤ 30) {x : Int32} (hx : ∀ e, e < n → bt x e = g e) : qqM f n &&& x = qqM (fun e => f e && g e) n := by
  refine qqM_of (by omega) (fun e he => ?_) (fun e h1 h2 => ?_)
  · rw [b_and, qqM_b hn he, hx e he]
  · rw [b_and, qqM_bt _ _ (by omega) e h2, decide_eq_false (by omega)]; rfl
theorem c_findFitting (hw : Tw T) (t : KT T ex K) (p9 : KP ex K) (l : KL T K) (ke : KE T K σ) (hA : KA A ex K S) {s r b tr k : Nat} (sl : KSl ex K σ s r) (rs : RSl σ r b) (hb : b ≤ 30) (htr : tr < 31) (hk : k < nC σ r) (P : Nat → Bool) : f_X5_findFitting (A 52 0) (some (A (18 + k) s)) (qqM P (Tn T)) (some (A 55 tr)) S = some (qqM (fun e => P e && !qAny (fun t => !qTs T σ (K.1 55 tr) (16 * r + 4 * k + t) e) (nTt σ r k)) (Tn T)) := by
  have h30 := hw.n30
  have hn := rs.n
  obtain ⟨t1, t2, t3, t4⟩ := rs.t hk
  obtain ⟨⟨x18, x22, x26, x30⟩, s4, s5, s0, s1, s2, s3, s9, st⟩ := sl.2 k hk
  have k4 : k = 0 ∨ k = 1 ∨ k = 2 ∨ k = 3 := by omega
  have kt18 : (kT (18 + k)).1 = 2 := by rcases k4 with rfl | rfl | rfl | rfl <;> rfl
  have kt22 : kT (22 + k) = (20, 4) := by rcases k4 with rfl | rfl | rfl | rfl <;> rfl
  have kt26 : kT (26 + k) = (20, 4) := by rcases k4 with rfl | rfl | rfl | rfl <;> rfl
  have kt30 : kT (30 + k) = (20, 4) := by rcases k4 with rfl | rfl | rfl | rfl <;> rfl
  have gc4 : gI S (some (A (18 + k) s)) 2 4 = some (nI (nTt σ r k)) := by rw [hA.I (18 + k) 2 x18 kt18, s4, t2]
  have g1 : gR S (some (A (18 + k) s)) 2 1 = some (some (A (22 + k) s)) := by rw [hA.R (18 + k) 2 x18 kt18, s1]; rfl
  have g2 : gR S (some (A (18 + k) s)) 2 2 = some (some (A (26 + k) s)) := by rw [hA.R (18 + k) 2 x18 kt18, s2]; rfl
  have g3 : gR S (some (A (18 + k) s)) 2 3 = some (some (A (30 + k) s)) := by rw [hA.R (18 + k) 2 x18 kt18, s3]; rfl
  have hset : ∀ a, a < 30 → aI S (some (A 55 tr)) (nI a) = some (K.1 55 tr a) := fun a ha => hA.AI 55 30 (p9.1.2.1 tr htr) rfl ha
  have below : ∀ a, a < 30 → f_X11_isBelow (nI a) 30 = some (b2 true) := fun a ha => by
    rw [c_isBelow, decide_eq_true (show (0 : Int32) ≤ nI a ∧ nI a < 30 from ⟨nI_pos' (by omega), nI_lt (b := 30) (by omega) (by decide)⟩)]
  have key : ∀ d m j, j + d = nTt σ r k → d < m → f_X5_findFitting_6 (A 52 0) m (some (A (18 + k) s)) (some (A 55 tr)) (qqM (fun e => P e && !qAny (fun t => !qTs T σ (K.1 55 tr) (16 * r + 4 * k + t) e) j) (Tn T)) (nI j) S = some (qqM (fun e => P e && !qAny (fun t => !qTs T σ (K.1 55 tr) (16 * r + 4 * k + t) e) (nTt σ r k)) (Tn T)) := by
    intro d
    induction d with
    | zero =>
      intro m j hj hm
      obtain ⟨m, rfl⟩ : ∃ m', m = m' + 1 := ⟨m - 1, by omega⟩
      have hj : j = nTt σ r k := by omega
      subst hj
      rw [f_X5_findFitting_6, gc4, qqx, if_pos (Int32.le_refl _)]
      rfl
    | succ d ih =>
      intro m j hj hm
      obtain ⟨m, rfl⟩ : ∃ m', m = m' + 1 := ⟨m - 1, by omega⟩
      have hjn : j < nTt σ r k := by omega
      obtain ⟨v1, v2, v3⟩ := st j hjn
      have a1 : aI S (some (A (22 + k) s)) (nI j) = some (σ.1 17 (16 * r + 4 * k + j)) := by rw [hA.AI (22 + k) 4 x22 kt22 (by omega), v1]
      have a2 : aI S (some (A (26 + k) s)) (nI j) = some (σ.1 18 (16 * r + 4 * k + j)) := by rw [hA.AI (26 + k) 4 x26 kt26 (by omega), v2]
      have a3 : aI S (some (A (30 + k) s)) (nI j) = some (σ.1 19 (16 * r + 4 * k + j)) := by rw [hA.AI (30 + k) 4 x30 kt30 (by omega), v3]
      obtain ⟨kk, hkk, h17, h01, h29, h3', h56, h7⟩ := id (t4 j hjn)
      rw [f_X5_findFitting_6, gc4, qqx, if_neg (nI_ge (by omega) (by omega)), if_neg (ge4 (by omega)), g2, qqx, a2, qqx, g3, qqx, a3, qqx, g1, qqx, a1, qqx]
      unfold f_X5_findFitting_102 f_X5_findFitting_128 f_X5_findFitting_160 f_X5_findFitting_188
      rw [nI_1]
      have go : ∀ y, y = qqM (fun e => (P e && !qAny (fun t => !qTs T σ (K.1 55 tr) (16 * r + 4 * k + t) e) j) && qTs T σ (K.1 55 tr) (16 * r + 4 * k + j) e) (Tn T) → f_X5_findFitting_6 (A 52 0) m (some (A (18 + k) s)) (some (A 55 tr)) y (nI (j + 1)) S = some (qqM (fun e => P e && !qAny (fun t => !qTs T σ (K.1 55 tr) (16 * r + 4 * k + t) e) (nTt σ r k)) (Tn T)) := by
        intro y hy
        rw [hy, ← ih m (j + 1) (by omega) (by omega)]
        have : (fun e => (P e && !qAny (fun t => !qTs T σ (K.1 55 tr) (16 * r + 4 * k + t) e) j) && qTs T σ (K.1 55 tr) (16 * r + 4 * k + j) e) = (fun e => P e && !qAny (fun t => !qTs T σ (K.1 55 tr) (16 * r + 4 * k + t) e) (j + 1)) := by
          funext e
          show _ = (P e && !(qAny (fun t => !qTs T σ (K.1 55 tr) (16 * r + 4 * k + t) e) j || !qTs T σ (K.1 55 tr) (16 * r + 4 * k + j) e))
          cases P e <;> cases qAny (fun t => !qTs T σ (K.1 55 tr) (16 * r + 4 * k + t) e) j <;> cases qTs T σ (K.1 55 tr) (16 * r + 4 * k + j) e <;> rfl
        rw [this]
      have hqt := fun e => qTs_k (T := T) (M := K.1 55 tr) (e := e) hkk h17
      rw [h17, iq5 (by omega), iq6 (by omega), iq7 (by omega), iq8 (by omega), iq9 (by omega)]
      by_cases c5 : kk = 5
      · obtain ⟨a, ha, h18, -⟩ := h56 (Or.inl c5)
        have ha30 : a < 30 := by omega
        rw [if_pos c5, h18, below a ha30, qqx, b2_i0, if_pos rfl, hset a ha30, qqx]
        refine go _ (qqM_and _ _ h30 (fun e he => ?_))
        rw [bt_not (by omega), hqt e, tA_n h18 (by omega), c5]; rfl
      rw [if_neg c5]
      by_cases c6 : kk = 6
      · obtain ⟨a, ha, h18, -⟩ := h56 (Or.inr c6)
        have ha30 : a < 30 := by omega
        rw [if_pos c6, h18, below a ha30, qqx, b2_i0, if_pos rfl, hset a ha30, qqx]
        refine go _ (qqM_and _ _ h30 (fun e he => ?_))
        rw [hqt e, tA_n h18 (by omega), c6]; rfl
      rw [if_neg c6]
      by_cases c7 : kk = 7
      · obtain ⟨⟨c, hc, h18⟩, a, ha, h19, -⟩ := h7 c7
        have ha30 : a < 30 := by omega
        rw [if_pos c7, h18, h19, below a ha30, qqx, b2_i0, if_pos rfl, hset a ha30, qqx, p9.r5 hA, qqx]
        obtain ⟨s1, e1, q1⟩ := c_origins hw t p9 hA hc (K.1 55 tr a)
        rw [e1, qqx]
        refine go _ (qqM_and _ _ h30 (fun e he => ?_))
        rw [q1 e (by omega), hqt e, tA_n h18 (by omega), tB_n h19 (by omega), c7]
        show _ = qAny (fun x => bt (K.1 55 tr a) x && Trl T c x e) (Tn T)
        exact qAny_cg (fun y hy => by rw [decide_eq_true he, Bool.true_and])
      rw [if_neg c7]
      have triv : kk = 8 ∨ kk = 9 → f_X5_findFitting_6 (A 52 0) m (some (A (18 + k) s)) (some (A 55 tr)) (qqM (fun e => P e && !qAny (fun t => !qTs T σ (K.1 55 tr) (16 * r + 4 * k + t) e) j) (Tn T)) (nI (j + 1)) S = some (qqM (fun e => P e && !qAny (fun t => !qTs T σ (K.1 55 tr) (16 * r + 4 * k + t) e) (nTt σ r k)) (Tn T)) := by
        intro hz
        refine go _ (qqM_congr (fun e _ => ?_))
        have : qTs T σ (K.1 55 tr) (16 * r + 4 * k + j) e = true := by
          rw [hqt e]
          rcases hz with rfl | rfl <;> rfl
        rw [this, Bool.and_true]
      by_cases c8 : kk = 8
      · rw [if_pos c8]; exact triv (Or.inl c8)
      rw [if_neg c8]
      by_cases c9 : kk = 9
      · rw [if_pos c9]; exact triv (Or.inr c9)
      rw [if_neg c9, qqx, a1, qqx, p9.r5 hA, qqx, h17, c_passing (M := K.1 55 tr) hw t p9 l ke hA hkk h17 (by omega) (t4 j hjn), qqx]
      exact go _ rfl
  unfold f_X5_findFitting
  have := key (nTt σ r k) 4000 0 (by omega) (by omega)
  have hz : (fun e => P e && !qAny (fun t => !qTs T σ (K.1 55 tr) (16 * r + 4 * k + t) e) 0) = P := by
    funext e
    show (P e && !false) = P e
    rw [Bool.not_false, Bool.and_true]
  rw [hz] at this
  exact this
theorem c_findSet (hw : Tw T) (t : KT T ex K) (p9 : KP ex K) (l : KL T K) (q : KQ T ex K) (ke : KE T K σ) (hA : KA A ex K S) {s b tr : Nat} (sl : KSl ex K σ s s) (rs : RSl σ s b) (hb : b ≤ 30) (htr : tr < 31) (hh : ∀ q, h = some q → q < Tn T) : f_X5_findSet (A 52 0) (some (A 17 s)) (el A h) (some (A 55 tr)) S = some (qqM (qSv T σ (K.1 55 tr) h s) (Tn T)) := by
  have h30 := hw.n30
  have hn := rs.n
  obtain ⟨⟨x17, f0, f1, f2, f4, f5⟩, sc⟩ := id sl
  have kt : ∀ k, k < 4 → (kT (18 + k)).1 = 2 := fun k hk => by
    obtain rfl | rfl | rfl | rfl : k = 0 ∨ k = 1 ∨ k = 2 ∨ k = 3 := by omega
    all_goals rfl
  have g70 : gR S (some (A 17 s)) 7 0 = some (some (A 18 s)) := by rw [hA.R 17 7 x17 rfl, f0]; rfl
  have g74 : gI S (some (A 17 s)) 7 4 = some (σ.1 21 s) := by rw [hA.I 17 7 x17 rfl, f4]
  have cp : ∀ k, k < nC σ s → ∀ P : Nat → Bool, (∀ e, e < Tn T → P e = qBs9 T σ h s k e) → f_X5_findFitting (A 52 0) (some (A (18 + k) s)) (qqM P (Tn T)) (some (A 55 tr)) S = some (qqM (qCp T σ (K.1 55 tr) h s k) (Tn T)) := by
    intro k hk P hP
    rw [c_findFitting hw t p9 l ke hA sl rs hb htr hk P]
    refine congrArg some (qqM_congr (fun e he => ?_))
    show (P e && _) = (qBs9 T σ h s k e && _)
    rw [hP e he]
  have loop : ∀ d m k (x5 : Int32), k + d = nC σ s → d < m → (0 < k → x5 = qqM (qRw T σ (K.1 55 tr) h s (k - 1)) (Tn T)) → f_X5_findSet_19 (A 52 0) m (some (A 17 s)) (el A h) (some (A 55 tr)) (qqM (Tmb T h) (Tn T)) x5 (if k < nC σ s then some (A (18 + k) s) else none) S = some (qqM (qSv T σ (K.1 55 tr) h s) (Tn T)) := by
    intro d
    induction d with
    | zero =>
      intro m k x5 hk hm hx
      obtain ⟨m, rfl⟩ : ∃ m', m = m' + 1 := ⟨m - 1, by omega⟩
      have hk : k = nC σ s := by omega
      subst hk
      have hx := hx (by omega)
      unfold f_X5_findSet_19 f_X5_findSet_125
      rw [if_neg (Nat.lt_irrefl _), if_pos rfl, g74, qqx]
      by_cases c : σ.1 21 s = -1
      · rw [if_pos c, hx]
        refine congrArg some (qqM_congr (fun e _ => ?_))
        unfold qSv
        rw [if_pos (by rw [c]; decide)]
      · have hpos : ¬ σ.1 21 s < 0 := by
          rcases rs.2.1 with z | ⟨p, hp, z⟩
          · exact absurd z c
          · rw [z]; exact nI_pos (by omega)
        rw [if_neg c, p9.mtrees hA, qqx, qqx, t.r10 hA, qqx, hx, c_partsIn hw t l ke hA, qqx]
        refine congrArg some (qqM_congr (fun e _ => ?_))
        unfold qSv
        rw [if_neg hpos]
    | succ d ih =>
      intro m k x5 hk hm hx
      obtain ⟨m, rfl⟩ : ∃ m', m = m' + 1 := ⟨m - 1, by omega⟩
      have hkn : k < nC σ s := by omega
      obtain ⟨⟨x18, -⟩, -, s5, s0, -, -, -, s9, -⟩ := sc k hkn
      have kt18 := kt k (by omega)
      rw [if_pos hkn]
      unfold f_X5_findSet_19
      rw [if_neg (fun z => by cases z), hA.I (18 + k) 2 x18 kt18, s5, qqx, b2_i0]
      have nx : ∀ y, y = qqM (qRw T σ (K.1 55 tr) h s k) (Tn T) → f_X5_findSet_87 (fun z0 z1 z2 z3 z4 z5 => f_X5_findSet_19 (A 52 0) m z0 z1 z2 z3 z4 z5 S) (A 52 0) (some (A 17 s)) (el A h) (some (A 55 tr)) (qqM (Tmb T h) (Tn T)) (some (A (18 + k) s)) y S = some (qqM (qSv T σ (K.1 55 tr) h s) (Tn T)) := by
        intro y hy
        unfold f_X5_findSet_87
        rw [hA.R (18 + k) 2 x18 kt18, s9, qqx]
        have := ih m (k + 1) y (by omega) (by omega) (fun _ => by rw [hy]; rfl)
        by_cases c : k + 1 < nC σ s
        · rw [if_pos c] at this ⊢; exact this
        · rw [if_neg c] at this ⊢; exact this
      have f54 : ∀ P : Nat → Bool, (∀ e, e < Tn T → P e = qBs9 T σ h s k e) → f_X5_findSet_54 (fun z0 z1 z2 z3 z4 z5 => f_X5_findSet_19 (A 52 0) m z0 z1 z2 z3 z4 z5 S) (A 52 0) (some (A 17 s)) (el A h) (some (A 55 tr)) (qqM (Tmb T h) (Tn T)) x5 (some (A (18 + k) s)) (some (A 52 0)) (some (A (18 + k) s)) (qqM P (Tn T)) S = some (qqM (qSv T σ (K.1 55 tr) h s) (Tn T)) := by
        intro P hP
        unfold f_X5_findSet_54
        rw [p9.r5 hA, qqx, cp k hkn P hP, qqx, g70, qqx]
        have hne : (some (A (18 + k) s) = some (A 18 s)) = (18 + k = 18 ∧ s = s) := hA.ne x18 ((sc 0 (by omega)).1.1)
        by_cases c : k = 0
        · subst c
          rw [if_pos rfl]
          exact nx _ rfl
        · rw [if_neg (fun z => by rw [hne] at z; omega), hA.I (18 + k) 2 x18 kt18, qqx, s0 (by omega), qqx]
          obtain ⟨k', rfl⟩ : ∃ k', k = k' + 1 := ⟨k - 1, by omega⟩
          obtain ⟨w1, w2⟩ := (rs.t hkn).2.2.1 (by omega)
          rw [w2, hx (by omega), Nat.add_sub_cancel, c_reached hw t p9 hA w1, qqx]
          exact nx _ rfl
      by_cases ch : qHs σ s k = true
      · rw [if_pos ch]
        have hb9 : ∀ e, qBs9 T σ h s k e = decide (h = some e) := fun e => by unfold qBs9; rw [if_pos ch]
        cases h with
        | none =>
          rw [if_pos (show el A none = none from rfl)]
          have := f54 (fun _ => false) (fun e _ => by rw [hb9]; rfl)
          rw [show qqM (fun _ => false) (Tn T) = 0 from (qqM_of (x := 0) (by omega) (fun i _ => b_0 i) (fun i _ _ => b_0 i)).symm] at this
          exact this
        | some q =>
          have hq := hh q rfl
          rw [if_neg (show ¬ el A (some q) = none from fun z => by cases z), el_some, t.gn hA hq, qqx]
          have := f54 (fun e => decide (e = q)) (fun e _ => by rw [hb9]; exact decide_eq_decide.mpr ⟨fun z => by rw [z], fun z => (Option.some.inj z).symm⟩)
          rw [show qqM (fun e => decide (e = q)) (Tn T) = (1 : Int32) <<< (nI q &&& 31) from (qqM_of (by omega) (fun i hi => b_one (by omega) (by omega)) (fun i h1 h2 => by rw [b_one (by omega) h2, decide_eq_false (by omega)])).symm] at this
          exact this
      · rw [if_neg ch]
        exact f54 (Tmb T h) (fun e _ => by unfold qBs9; rw [if_neg ch])
  unfold f_X5_findSet
  rw [p9.mtrees hA, qqx, t.r10 hA, qqx, c_membersOf hw t l q hA hh, qqx, g70, qqx]
  have := loop (nC σ s) 4000 0 0 (by omega) (by omega) (fun z => absurd z (Nat.lt_irrefl 0))
  rw [if_pos (by omega)] at this
  exact this
end CS3
