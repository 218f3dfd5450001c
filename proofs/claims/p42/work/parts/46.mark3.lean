def Tar (T : qqT) (e0 x : Nat) : Bool := decide (TH T x = TH T e0) || (decide (TH T e0 = some x) || match TH T x with
  | none => false
  | some q => decide (TH T q = TH T e0))
def orF (f : Nat → Int32) : Nat → Int32
  | 0 => 0
  | k + 1 => orF f k ||| f k
theorem orF_bt (f : Nat → Int32) (i : Nat) : ∀ n, bt (orF f n) i = true ↔ ∃ r, r < n ∧ bt (f r) i = true := by
  intro n
  induction n with
  | zero => simp [orF, b_0]
  | succ n ih =>
    show bt (orF f n ||| f n) i = true ↔ _
    rw [b_or, Bool.or_eq_true, ih]
    constructor
    · rintro (⟨r, h1, h2⟩ | h)
      · exact ⟨r, by omega, h2⟩
      · exact ⟨n, by omega, h⟩
    · rintro ⟨r, h1, h2⟩
      by_cases hr : r = n
      · subst hr; exact Or.inr h2
      · exact Or.inl ⟨r, by omega, h2⟩
section MT
variable {T : qqT} {A : kA} {ex : Nat → Nat → Prop} {K : kS} {S : cS} {σ : mS}
theorem c_holds (hw : Tw T) (h : KA A ex K S) (q : KQ T ex K) {e : Nat} (he : e < Tn T) : f_X10_holdsElement (A 50 0) (some (A 0 e)) S = some (b2 (TD T e)) := by
  have h30 := hw.n30
  unfold f_X10_holdsElement
  rw [q.2.1.I50 h]
  simp only [qqb]
  rw [q.1.gn h he]
  simp only [qqb]
  rw [b_ask _ (by omega), q.2.2.1.2.1, qqM_bt _ _ (by omega) e (by omega), decide_eq_true he, Bool.true_and, b2_i0]
  cases TD T e <;> rfl
theorem g15 (t : KT T ex K) (h : KA A ex K S) (l : KL T K) {e : Nat} (he : e < Tn T) : gR S (some (A 0 e)) 3 15 = some (el A (TH T e)) := by
  rw [h.R 0 3 (t.E he (by decide)) rfl, (l.1 e he).2.1, el_kp]
theorem c_around_L (hw : Tw T) (h : KA A ex K S) (q : KQ T ex K) {e0 : Nat} (he : e0 < Tn T) : ∀ (L : List Nat) (D : List Nat) (m : Nat) (s : Int32), (∀ x ∈ L, x < Tn T) → (∀ y r, L = y :: r → chS K y r) → L.length < m → (∀ e, e < 32 → bt s e = (decide (e ∈ D) && Tar T e0 e)) → ∃ s', f_X10_around_17 (A 50 0) m (some (A 0 e0)) s (el A L.head?) S = some s' ∧ ∀ e, e < 32 → bt s' e = (decide (e ∈ D ++ L) && Tar T e0 e) := by
  have h30 := hw.n30
  intro L
  induction L with
  | nil =>
    intro D m s hL hc hm hs
    obtain ⟨m, rfl⟩ : ∃ m', m = m' + 1 := ⟨m - 1, by omega⟩
    rw [f_X10_around_17, if_pos (show el A ([] : List Nat).head? = none from rfl)]
    exact ⟨s, rfl, fun e he => by rw [List.append_nil]; exact hs e he⟩
  | cons x L ih =>
    intro D m s hL hc hm hs
    obtain ⟨m, rfl⟩ : ∃ m', m = m' + 1 := ⟨m - 1, by omega⟩
    simp only [List.length_cons] at hm
    have hx := hL x List.mem_cons_self
    have hcx := hc x L rfl
    have hlt : ∀ y z, y < Tn T → TH T y = some z → z < Tn T := fun y z _ hz => (TH_lt hw hz).1
    rw [f_X10_around_17, if_neg (show ¬ el A (x :: L).head? = none from fun z => by cases z)]
    show ∃ s', (gR S (some (A 0 x)) 3 15).bind _ = _ ∧ _
    have e82 : ∀ s1, f_X10_around_82 (fun z0 z1 z2 => f_X10_around_17 (A 50 0) m z0 z1 z2 S) (A 50 0) (some (A 0 e0)) s1 (some (A 0 x)) S = f_X10_around_17 (A 50 0) m (some (A 0 e0)) s1 (el A L.head?) S := by
      intro s1
      unfold f_X10_around_82
      rw [g17 q.1 h hx (chS_ro hcx)]
      rfl
    have e73 : f_X10_around_73 (fun z0 z1 z2 => f_X10_around_17 (A 50 0) m z0 z1 z2 S) (A 50 0) (some (A 0 e0)) s (some (A 0 x)) S = f_X10_around_17 (A 50 0) m (some (A 0 e0)) (s ||| ((1 : Int32) <<< (nI x &&& 31))) (el A L.head?) S := by
      unfold f_X10_around_73
      rw [q.1.gn h hx]
      simp only [qqb]
      rw [e82]
    have e47 : ∀ b : Bool, f_X10_around_47 (fun z0 z1 z2 => f_X10_around_17 (A 50 0) m z0 z1 z2 S) (A 50 0) (some (A 0 e0)) s (some (A 0 x)) (b2 b) S = f_X10_around_17 (A 50 0) m (some (A 0 e0)) (if (decide (TH T x = TH T e0) || (decide (TH T e0 = some x) || b)) = true then s ||| ((1 : Int32) <<< (nI x &&& 31)) else s) (el A L.head?) S := by
      intro b
      unfold f_X10_around_47
      rw [g15 q.1 h q.2.2.1 hx]
      simp only [qqb]
      rw [g15 q.1 h q.2.2.1 he]
      simp only [qqb]
      have z1 : (el A (TH T e0) = el A (TH T x)) = (TH T e0 = TH T x) := el_eq q.1 h (fun z hz => hlt e0 z he hz) (fun z hz => hlt x z hx hz)
      have z1' : (el A (TH T x) = el A (TH T e0)) = (TH T x = TH T e0) := el_eq q.1 h (fun z hz => hlt x z hx hz) (fun z hz => hlt e0 z he hz)
      have z2 : (some (A 0 x) = el A (TH T e0)) = (some x = TH T e0) := el_eq q.1 h (x := some x) (fun z hz => by cases hz; exact hx) (fun z hz => hlt e0 z he hz)
      by_cases h1 : TH T x = TH T e0
      · first
          | rw [if_pos (z1.mpr h1.symm)]
          | rw [if_pos (z1'.mpr h1)]
        rw [e73, decide_eq_true h1, Bool.true_or, if_pos rfl]
      · first
          | rw [if_neg (fun z => h1 (z1.mp z).symm)]
          | rw [if_neg (fun z => h1 (z1'.mp z))]
        rw [decide_eq_false h1, Bool.false_or]
        by_cases h2 : TH T e0 = some x
        · rw [if_pos (z2.mpr h2.symm), e73, decide_eq_true h2, Bool.true_or, if_pos rfl]
        · rw [if_neg (fun z => h2 (z2.mp z).symm), decide_eq_false h2, Bool.false_or, b2_i0, e73, e82]
          by_cases hb : b = true
          · rw [if_pos hb, if_pos hb]
          · rw [if_neg hb, if_neg hb]
    have fin : ∃ s', f_X10_around_17 (A 50 0) m (some (A 0 e0)) (if Tar T e0 x = true then s ||| ((1 : Int32) <<< (nI x &&& 31)) else s) (el A L.head?) S = some s' ∧ ∀ e, e < 32 → bt s' e = (decide (e ∈ D ++ (x :: L)) && Tar T e0 e) := by
      obtain ⟨s', e1, e2⟩ := ih (D ++ [x]) m (if Tar T e0 x = true then s ||| ((1 : Int32) <<< (nI x &&& 31)) else s) (fun y hy => hL y (List.mem_cons_of_mem _ hy)) (fun w r hr => by rw [hr] at hcx; exact hcx.2) (by omega) (fun e he => by
        by_cases hb9 : Tar T e0 x = true
        · rw [if_pos hb9, b_or, b_one (by omega) he, hs e he]
          by_cases hey : e = x
          · subst hey; simp [hb9]
          · simp [hey]
        · rw [if_neg hb9, hs e he]
          by_cases hey : e = x
          · subst hey; simp [hb9]
          · simp [hey])
      exact ⟨s', e1, fun e he => by rw [e2 e he, List.append_assoc]; rfl⟩
    rw [g15 q.1 h q.2.2.1 hx]
    simp only [qqb]
    cases hq : TH T x with
    | none =>
      rw [if_pos (el_none A)]
      unfold f_X10_around_46
      have := e47 false
      rw [show (el A (x :: L).head?) = some (A 0 x) from rfl, show (0 : Int32) = b2 false from rfl, this]
      have e9 : Tar T e0 x = (decide (TH T x = TH T e0) || (decide (TH T e0 = some x) || false)) := by unfold Tar; rw [hq]
      rw [← e9]
      exact fin
    | some y =>
      have hy := hlt x y hx hq
      rw [if_neg (show ¬ el A (some y) = none from fun z => by cases z)]
      rw [show (el A (x :: L).head?) = some (A 0 x) from rfl, g15 q.1 h q.2.2.1 hx, hq]
      simp only [qqb, el_some]
      rw [g15 q.1 h q.2.2.1 hy]
      simp only [qqb]
      rw [g15 q.1 h q.2.2.1 he]
      simp only [qqb]
      have z3 : (el A (TH T y) = el A (TH T e0)) = (TH T y = TH T e0) := el_eq q.1 h (fun z hz => hlt y z hy hz) (fun z hz => hlt e0 z he hz)
      have e9 : Tar T e0 x = (decide (TH T x = TH T e0) || (decide (TH T e0 = some x) || decide (TH T y = TH T e0))) := by unfold Tar; rw [hq]
      by_cases h3 : TH T y = TH T e0
      · rw [if_pos (z3.mpr h3)]
        have := e47 true
        rw [show (1 : Int32) = b2 true from rfl, this]
        rw [decide_eq_true h3] at e9
        rw [← e9]
        exact fin
      · rw [if_neg (fun z => h3 (z3.mp z))]
        unfold f_X10_around_46
        have := e47 false
        rw [show (0 : Int32) = b2 false from rfl, this]
        rw [decide_eq_false h3] at e9
        rw [← e9]
        exact fin
theorem KL.top (hw : Tw T) (l : KL T K) : ∀ y r, Tord T = y :: r → chS K y r := fun y r hr => l.at hw (A0 := []) hr
theorem c_around (hw : Tw T) (h : KA A ex K S) (q : KQ T ex K) {e0 : Nat} (he : e0 < Tn T) : ∃ s, f_X10_around (A 50 0) (some (A 0 e0)) S = some s ∧ ∀ e, e < Tn T → TD T e = true → bt s e = (TD T e0 && Tar T e0 e) := by
  have h30 := hw.n30
  unfold f_X10_around
  rw [q.1.r10 h]
  simp only [qqb]
  rw [c_holds hw h q he]
  simp only [qqb]
  rw [b2_i0]
  by_cases hd : TD T e0 = true
  · rw [if_pos hd, q.1.top h]
    simp only [qqb]
    obtain ⟨r, hr⟩ := Tord_head hw
    obtain ⟨s', e1, e2⟩ := c_around_L hw h q he (Tord T) [] 4000 0 (fun x hx => (Tord_is hw hx).1) (q.2.2.1.top hw) (by have := Tord_len hw; omega) (fun e _ => by rw [b_0]; simp)
    have e3 : el A (Tord T).head? = some (A 0 0) := by rw [hr]; rfl
    rw [e3] at e1
    refine ⟨s', e1, fun e he9 hde => ?_⟩
    rw [e2 e (by omega), hd]
    have := Tord_mem hw e he9 hde
    simp [this]
  · rw [if_neg hd]
    have hd : TD T e0 = false := by simpa using hd
    exact ⟨0, rfl, fun e _ _ => by rw [hd, b_0]; rfl⟩
def TMf (T : qqT) (nf ff : Bool) (e0 e : Nat) : Bool := (nf && decide (e = e0)) || (ff && (TD T e0 && Tar T e0 e))
theorem c_markFeature (hw : Tw T) (h : KA A ex K S) (q : KQ T ex K) {e0 : Nat} (he : e0 < Tn T) (ft : Int32) : ∃ S' K', f_X11_markFeature (A 49 0) (some (A 0 e0)) ft S = some S' ∧ KA A ex K' S' ∧ CMk T (TMf T (!decide ((K.1 58 0 9 &&& ft) = 0)) (!decide ((K.1 58 0 10 &&& ft) = 0)) e0) K K' := by
  have h30 := hw.n30
  have h22 : ∀ (K : kS) (S : cS), KA A ex K S → KQ T ex K → ∃ S' K', f_X11_markFeature_22 (A 49 0) (some (A 0 e0)) ft S = some S' ∧ KA A ex K' S' ∧ CMk T (fun e => !decide ((K.1 58 0 10 &&& ft) = 0) && (TD T e0 && Tar T e0 e)) K K' := by
    intro K S h q
    unfold f_X11_markFeature_22
    rw [q.2.1.cascade h]
    simp only [qqb]
    rw [q.2.1.I58 h]
    simp only [qqb]
    by_cases hc : (K.1 58 0 10 &&& ft) = 0
    · rw [if_pos hc]
      exact ⟨S, K, rfl, h, CMk.rf.cg (fun e _ _ => by rw [decide_eq_true hc]; rfl)⟩
    · rw [if_neg hc, q.2.1.trees h]
      simp only [qqb]
      rw [q.1.r10 h]
      simp only [qqb]
      obtain ⟨s, e0', hs⟩ := c_around hw h q he
      rw [e0']
      simp only [qqb]
      rw [q.2.1.r11 h]
      simp only [qqb]
      obtain ⟨S1, K1, e1, h1, b1⟩ := c_mark hw h q s
      rw [e1]
      exact ⟨S1, K1, rfl, h1, b1.cg (fun e he hd => by rw [hs e he hd, decide_eq_false hc]; rfl)⟩
  unfold f_X11_markFeature
  rw [q.2.1.cascade h]
  simp only [qqb]
  rw [q.2.1.I58 h]
  simp only [qqb]
  by_cases hc : (K.1 58 0 9 &&& ft) = 0
  · rw [if_pos hc]
    obtain ⟨S1, K1, e1, h1, b1⟩ := h22 K S h q
    exact ⟨S1, K1, e1, h1, b1.cg (fun e _ _ => by unfold TMf; rw [decide_eq_true hc]; rfl)⟩
  · rw [if_neg hc, q.1.gn h he]
    simp only [qqb]
    rw [q.2.1.r11 h]
    simp only [qqb]
    obtain ⟨S1, K1, e1, h1, b1⟩ := c_mark hw h q ((1 : Int32) <<< (nI e0 &&& 31))
    rw [e1]
    simp only [qqb]
    obtain ⟨S2, K2, e2, h2, b2⟩ := h22 K1 S1 h1 (b1.kq q)
    refine ⟨S2, K2, e2, h2, (b1.tr b2).cg (fun e he9 hd => ?_)⟩
    rw [b_one (by omega) (by omega), b1.kB.1 58 0 10 (by simp [MI])]
    unfold TMf
    rw [decide_eq_false hc]
    rfl
def RU (σ : mS) (nr : Nat) (sel : Nat → Nat) : Prop := σ.2 36 = nI nr ∧ nr ≤ 40 ∧ ∀ r, r < nr → σ.1 33 r = nI (sel r) ∧ sel r < 30
theorem RU.sB {σ' : mS} {L1 L2 : List Nat} {nr : Nat} {sel : Nat → Nat} (h : RU σ nr sel) (k : sB L1 L2 σ σ') (h1 : 33 ∉ L1) (h2 : 36 ∉ L2) : RU σ' nr sel := by
  unfold RU at h ⊢
  rw [k.1 33 h1, k.2 36 h2]
  exact h
theorem r_flags_4 {nr : Nat} {sel : Nat → Nat} (hu : RU σ nr sel) : ∀ d m k, k + d = nr → d < m → f_flags_4 m (orF (fun r => σ.1 25 (sel r)) k) (nI k) σ = some (orF (fun r => σ.1 25 (sel r)) nr >>> ((14 : Int32) &&& 31)) := by
  obtain ⟨h1, h2, h3⟩ := hu
  intro d
  induction d with
  | zero =>
    intro m k hk hm
    obtain ⟨m, rfl⟩ : ∃ m', m = m' + 1 := ⟨m - 1, by omega⟩
    have hk : k = nr := by omega
    subst hk
    rw [f_flags_4, h1, if_pos (nI_le (Nat.le_refl _) (by omega))]
  | succ d ih =>
    intro m k hk hm
    obtain ⟨m, rfl⟩ : ∃ m', m = m' + 1 := ⟨m - 1, by omega⟩
    have h9 := h3 k (by omega)
    rw [f_flags_4, h1, if_neg (nI_ge (by omega) (by omega)), rd_33 (by omega), h9.1]
    simp only [qqb]
    rw [rd_25 (by omega)]
    simp only [qqb, nI_1]
    exact ih m (k + 1) (by omega) (by omega)
theorem r_flags {nr : Nat} {sel : Nat → Nat} (hu : RU σ nr sel) : f_flags σ = some (orF (fun r => σ.1 25 (sel r)) nr >>> ((14 : Int32) &&& 31)) := by
  have := r_flags_4 hu nr 4000 0 (by omega) (by have := hu.2.1; omega)
  unfold f_flags
  rw [show (0 : Int32) = nI 0 from rfl]
  exact this
theorem fl2_of {x : Int32} (h : ∀ i, 16 ≤ i → i < 32 → bt x i = false) : x >>> ((14 : Int32) &&& 31) = nI (fl2 (bt x 14) (bt x 15)) := by
  apply b_ext
  intro i hi
  have e14 : ((14 : Int32) &&& 31) = (nI 14 &&& 31) := rfl
  rw [e14, b_sshr 14 (by decide) x hi]
  have h31 := h 31 (by decide) (by decide)
  have key : ∀ o h9 : Bool, ∀ i, i < 32 → bt (nI (fl2 o h9)) i = if i = 0 then o else if i = 1 then h9 else false := by decide +kernel
  rw [key _ _ i hi]
  by_cases h0 : i = 0
  · subst h0; rfl
  · rw [if_neg h0]
    by_cases h1 : i = 1
    · subst h1; rfl
    · rw [if_neg h1]
      split
      · exact h (14 + i) (by omega) (by omega)
      · exact h31
theorem r_markTest_84 (hw : Tw T) {e0 : Nat} (he : e0 < Tn T) {x4 : Int32} {ff : Bool} (hff : (x4 = 0) = (ff = false)) : ∀ d m k (σ : mS), RT T σ → k + d = Tn T → d < m → ∃ σ', f_markTest_84 m x4 (Tco T e0) (nI k) σ = some σ' ∧ RMk T (fun e => decide (k ≤ e) && (ff && (TD T e0 && Tar T e0 e))) σ σ' := by
  have h30 := hw.n30
  intro d
  induction d with
  | zero =>
    intro m k σ hr hk hm
    obtain ⟨m, rfl⟩ : ∃ m', m = m' + 1 := ⟨m - 1, by omega⟩
    have hk : k = Tn T := by omega
    subst hk
    rw [f_markTest_84, hr.n, if_pos (nI_le (Nat.le_refl _) (by omega))]
    exact ⟨σ, rfl, RMk.rf.cg (fun e he _ => by rw [decide_eq_false (by omega)]; rfl)⟩
  | succ d ih =>
    intro m k σ hr hk hm
    obtain ⟨m, rfl⟩ : ∃ m', m = m' + 1 := ⟨m - 1, by omega⟩
    have hkn : k < Tn T := by omega
    rw [f_markTest_84, hr.n, if_neg (nI_ge hkn (by omega))]
    cases ff with
    | false =>
      rw [if_pos (hff.mpr rfl)]
      exact ⟨σ, rfl, RMk.rf.cg (fun e he _ => by simp)⟩
    | true =>
      rw [if_neg (fun z => by have := hff.mp z; cases this), r_treeOf hw hr hkn]
      simp only [qqb]
      have g171 : ∀ b : Bool, (TD T k = true → b = (TD T e0 && Tar T e0 k)) → ∃ σ', f_markTest_171 (f_markTest_84 m) x4 (Tco T e0) (nI k) (if b then (1 : Int32) <<< (nI k &&& 31) else 0) σ = some σ' ∧ RMk T (fun e => decide (k ≤ e) && (true && (TD T e0 && Tar T e0 e))) σ σ' := by
        intro b hb
        unfold f_markTest_171
        obtain ⟨σ1, e1, b1⟩ := r_mark hw hr (if b then (1 : Int32) <<< (nI k &&& 31) else 0)
        rw [e1]
        simp only [qqb, nI_1]
        obtain ⟨σ2, e2, b2⟩ := ih m (k + 1) σ1 (b1.rt hr) (by omega) (by omega)
        refine ⟨σ2, e2, (b1.tr b2).cg (fun e he9 hd => ?_)⟩
        by_cases hek : e = k
        · subst hek
          rw [← hb hd]
          cases b with
          | true => rw [if_pos rfl, b_one (by omega) (by omega)]; simp
          | false => rw [if_neg (by decide), b_0]; simp
        · have hbk : bt (if b then (1 : Int32) <<< (nI k &&& 31) else 0) e = false := by
            cases b with
            | true => rw [if_pos rfl, b_one (by omega) (by omega), decide_eq_false hek]
            | false => rw [if_neg (by decide), b_0]
          rw [hbk, Bool.false_or]
          by_cases hle : k ≤ e
          · rw [decide_eq_true hle, decide_eq_true (show k + 1 ≤ e by omega)]
          · rw [decide_eq_false hle, decide_eq_false (show ¬ k + 1 ≤ e by omega)]
      have g134 : ∀ y : Bool, (TD T k = true → ((match TH T k with
          | none => false
          | some q => decide (TH T q = TH T e0)) = true ∧ TD T e0 = true → y = true) ∧ (y = true → TD T e0 = true → (match TH T k with
          | none => false
          | some q => decide (TH T q = TH T e0)) = true) ∧ (y = true → TD T e0 = false → False)) → ∃ σ', f_markTest_134 (f_markTest_84 m) x4 (Tco T e0) (nI k) (Tco T k) (b2 y) σ = some σ' ∧ RMk T (fun e => decide (k ≤ e) && (true && (TD T e0 && Tar T e0 e))) σ σ' := by
        intro y hy
        unfold f_markTest_134
        have c1 : f_markTest_163 (f_markTest_84 m) x4 (Tco T e0) (nI k) σ = f_markTest_171 (f_markTest_84 m) x4 (Tco T e0) (nI k) (if true then (1 : Int32) <<< (nI k &&& 31) else 0) σ := rfl
        have c0 : f_markTest_170 (f_markTest_84 m) x4 (Tco T e0) (nI k) σ = f_markTest_171 (f_markTest_84 m) x4 (Tco T e0) (nI k) (if false then (1 : Int32) <<< (nI k &&& 31) else 0) σ := rfl
        have hTD : TH T e0 = none → TD T e0 = true → Tco T e0 = -1 := fun h1 h2 => (Tco_m1 hw he h1).mpr h2
        by_cases hl : Tco T e0 ≤ (-2 : Int32)
        · rw [if_pos hl, c0]
          refine g171 false (fun hd => ?_)
          have hd0 : TD T e0 = false := by
            cases hq : TH T e0 with
            | some q =>
              rw [Tco_some hw hq] at hl
              exact absurd hl (by
                have := TH_30 hw hq
                rw [Int32.le_iff_toInt_le, nI_toInt (by omega)]
                simp
                omega)
            | none =>
              cases hdd : TD T e0 with
              | false => rfl
              | true => rw [hTD hq hdd] at hl; exact absurd hl (by decide)
          rw [hd0]
          rfl
        · rw [if_neg hl]
          have hcode : ∀ x, x < Tn T → TD T x = true → TD T e0 = true → ((Tco T x = Tco T e0) = (TH T x = TH T e0)) := by
            intro x hx hdx hd0
            cases hq : TH T x with
            | none =>
              rw [(Tco_m1 hw hx hq).mpr hdx]
              cases hq0 : TH T e0 with
              | none => rw [hTD hq0 hd0]; simp
              | some q0 =>
                rw [Tco_some hw hq0]
                have : ¬ (-1 : Int32) = nI q0 := fun z => absurd (nI_pos' (n := q0) (by have := TH_30 hw hq0; omega)) (by rw [← z]; decide)
                simp [this]
            | some q =>
              rw [Tco_some hw hq]
              have hq30 := TH_30 hw hq
              cases hq0 : TH T e0 with
              | none =>
                rw [hTD hq0 hd0]
                have : ¬ nI q = (-1 : Int32) := fun z => absurd (nI_pos' (n := q) (by omega)) (by rw [z]; decide)
                simp [this]
              | some q0 =>
                have := TH_30 hw hq0
                rw [Tco_some hw hq0, nI_eqE (by omega) (by omega)]
                simp
          have hnd : TD T k = true → TD T e0 = false → ¬ Tco T k = Tco T e0 ∧ ¬ nI k = Tco T e0 := by
            intro hdk hd0
            cases hq0 : TH T e0 with
            | none =>
              exfalso
              unfold Tco at hl
              by_cases h0 : TR T e0 = 0
              · have := TD_eq hw he
                rw [hq0] at this
                simp only [h0, decide_true] at this
                rw [this] at hd0
                cases hd0
              · rw [if_neg h0, hq0] at hl
                exact hl (by decide)
            | some q0 =>
              have hq9 := TH_lt hw hq0
              have hdq : TD T q0 = false := by rw [← hd0, TD_eq hw he, hq0]
              rw [Tco_some hw hq0]
              refine ⟨fun z => ?_, fun z => ?_⟩
              · cases hqk : TH T k with
                | none =>
                  rw [(Tco_m1 hw hkn hqk).mpr hdk] at z
                  exact absurd (nI_pos' (n := q0) (by omega)) (by rw [← z]; decide)
                | some q =>
                  rw [Tco_some hw hqk, nI_eqE (by have := TH_30 hw hqk; omega) (by omega)] at z
                  subst z
                  have : TD T k = TD T q := by rw [TD_eq hw hkn, hqk]
                  rw [hdk, hdq] at this
                  cases this
              · rw [nI_eqE (by omega) (by omega)] at z
                subst z
                rw [hdk] at hdq
                cases hdq
          by_cases h1 : Tco T k = Tco T e0
          · rw [if_pos h1, c1]
            refine g171 true (fun hd => ?_)
            cases hd0 : TD T e0 with
            | false => exact absurd h1 (hnd hd hd0).1
            | true =>
              rw [hcode k hkn hd hd0] at h1
              unfold Tar
              rw [decide_eq_true h1]
              rfl
          · rw [if_neg h1]
            by_cases h2 : nI k = Tco T e0
            · rw [if_pos h2, c1]
              refine g171 true (fun hd => ?_)
              cases hd0 : TD T e0 with
              | false => exact absurd h2 (hnd hd hd0).2
              | true =>
                have : TH T e0 = some k := by
                  cases hq0 : TH T e0 with
                  | none =>
                    rw [hTD hq0 hd0] at h2
                    exact absurd (nI_pos' (n := k) (by omega)) (by rw [h2]; decide)
                  | some q0 =>
                    rw [Tco_some hw hq0, nI_eqE (by omega) (by have := TH_30 hw hq0; omega)] at h2
                    rw [h2]
                unfold Tar
                rw [decide_eq_true this]
                simp
            · rw [if_neg h2, b2_i0, c1, c0]
              have hsame : ∀ b : Bool, (if b = true then f_markTest_171 (f_markTest_84 m) x4 (Tco T e0) (nI k) (if true then (1 : Int32) <<< (nI k &&& 31) else 0) σ else f_markTest_171 (f_markTest_84 m) x4 (Tco T e0) (nI k) (if false then (1 : Int32) <<< (nI k &&& 31) else 0) σ) = f_markTest_171 (f_markTest_84 m) x4 (Tco T e0) (nI k) (if b then (1 : Int32) <<< (nI k &&& 31) else 0) σ := by intro b; cases b <;> rfl
              rw [hsame]
              refine g171 y (fun hd => ?_)
              cases hd0 : TD T e0 with
              | false =>
                cases y with
                | false => rfl
                | true => exact ((hy hd).2.2 rfl hd0).elim
              | true =>
                rw [hcode k hkn hd hd0] at h1
                have h3 : ¬ TH T e0 = some k := by
                  intro z
                  rw [Tco_some hw z] at h2
                  exact h2 rfl
                unfold Tar
                rw [decide_eq_false h1, decide_eq_false h3, Bool.false_or, Bool.false_or, Bool.true_and]
                cases y with
                | true => exact ((hy hd).2.1 rfl hd0).symm
                | false =>
                  cases hz : (match TH T k with
                    | none => false
                    | some q => decide (TH T q = TH T e0)) with
                  | false => rfl
                  | true => exact absurd ((hy hd).1 ⟨hz, hd0⟩) (by decide)
      cases hqk : TH T k with
      | none =>
        rw [if_pos ((Tco_neg hw).mpr hqk)]
        unfold f_markTest_133
        refine g134 false (fun hd => ?_)
        rw [hqk]
        exact ⟨fun z => (by have := z.1; cases this), fun z => absurd z (by decide), fun z => absurd z (by decide)⟩
      | some q =>
        have hq9 := TH_lt hw hqk
        have hq30 := TH_30 hw hqk
        rw [if_neg (fun z => by rw [(Tco_neg hw).mp z] at hqk; cases hqk)]
        by_cases hl : Tco T e0 ≤ (-2 : Int32)
        · rw [if_pos hl]
          unfold f_markTest_133 f_markTest_134
          rw [if_pos hl]
          have := g134 false
          unfold f_markTest_134 at this
          rw [if_pos hl] at this
          have hd0 : TD T e0 = false := by
            cases hq0 : TH T e0 with
            | some q0 =>
              rw [Tco_some hw hq0] at hl
              exact absurd hl (by
                have := TH_30 hw hq0
                rw [Int32.le_iff_toInt_le, nI_toInt (by omega)]
                simp
                omega)
            | none =>
              cases hdd : TD T e0 with
              | false => rfl
              | true => rw [(Tco_m1 hw he hq0).mpr hdd] at hl; exact absurd hl (by decide)
          exact this (fun _ => ⟨fun z => absurd z.2 (by rw [hd0]; decide), fun z => absurd z (by decide), fun z => absurd z (by decide)⟩)
        · rw [if_neg hl, Tco_some hw hqk, r_treeOf hw hr hq9.1]
          simp only [qqb]
          have htq : TD T k = TD T q := by rw [TD_eq hw hkn, hqk]
          by_cases h5 : Tco T q = Tco T e0
          · rw [if_pos h5]
            have g := g134 true
            rw [Tco_some hw hqk] at g
            refine g (fun hd => ?_)
            rw [hqk]
            have hdq : TD T q = true := by rw [← htq]; exact hd
            refine ⟨fun _ => rfl, fun _ hd0 => ?_, fun _ hd0 => ?_⟩
            · show decide (TH T q = TH T e0) = true
              rw [decide_eq_true_iff]
              cases ha : TH T q with
              | none =>
                rw [(Tco_m1 hw hq9.1 ha).mpr hdq] at h5
                cases hb : TH T e0 with
                | none => rfl
                | some q0 => rw [Tco_some hw hb] at h5; exact absurd (nI_pos' (n := q0) (by have := TH_30 hw hb; omega)) (by rw [← h5]; decide)
              | some q1 =>
                rw [Tco_some hw ha] at h5
                cases hb : TH T e0 with
                | none => rw [(Tco_m1 hw he hb).mpr hd0] at h5; exact absurd (nI_pos' (n := q1) (by have := TH_30 hw ha; omega)) (by rw [h5]; decide)
                | some q0 => rw [Tco_some hw hb, nI_eqE (by have := TH_30 hw ha; omega) (by have := TH_30 hw hb; omega)] at h5; rw [h5]
            · cases hb : TH T e0 with
              | none =>
                unfold Tco at hl
                by_cases h0 : TR T e0 = 0
                · have := TD_eq hw he
                  rw [hb] at this
                  simp only [h0, decide_true] at this
                  rw [this] at hd0
                  cases hd0
                · rw [if_neg h0, hb] at hl
                  exact hl (by decide)
              | some q0 =>
                have hdq0 : TD T q0 = false := by rw [← hd0, TD_eq hw he, hb]
                rw [Tco_some hw hb] at h5
                cases ha : TH T q with
                | none => rw [(Tco_m1 hw hq9.1 ha).mpr hdq] at h5; exact absurd (nI_pos' (n := q0) (by have := TH_30 hw hb; omega)) (by rw [← h5]; decide)
                | some q1 =>
                  rw [Tco_some hw ha, nI_eqE (by have := TH_30 hw ha; omega) (by have := TH_30 hw hb; omega)] at h5
                  subst h5
                  have : TD T q = TD T q1 := by rw [TD_eq hw hq9.1, ha]
                  rw [hdq, hdq0] at this
                  cases this
          · rw [if_neg h5]
            unfold f_markTest_133
            have g := g134 false
            rw [Tco_some hw hqk] at g
            refine g (fun hd => ?_)
            rw [hqk]
            have hdq : TD T q = true := by rw [← htq]; exact hd
            refine ⟨fun z => ?_, fun z => absurd z (by decide), fun z => absurd z (by decide)⟩
            exfalso
            have z1 : decide (TH T q = TH T e0) = true := z.1
            rw [decide_eq_true_iff] at z1
            apply h5
            unfold Tco at hl ⊢
            cases ha : TH T q with
            | none =>
              have := (Tco_m1 hw hq9.1 ha).mpr hdq
              unfold Tco at this
              rw [ha] at this
              rw [this]
              have := (Tco_m1 hw he (z1.symm.trans ha)).mpr z.2
              unfold Tco at this
              rw [this]
            | some q1 =>
              have := Tco_some hw ha
              unfold Tco at this
              rw [ha] at this
              rw [this]
              have := Tco_some hw (z1.symm.trans ha)
              unfold Tco at this
              rw [this]
end MT
