def nC (σ : mS) (s : Nat) : Nat := (σ.1 14 s).toNatClampNeg
def nTt (σ : mS) (s k : Nat) : Nat := (σ.1 16 (4 * s + k)).toNatClampNeg
def tA (σ : mS) (i : Nat) : Nat := (σ.1 18 i).toNatClampNeg
def tB (σ : mS) (i : Nat) : Nat := (σ.1 19 i).toNatClampNeg
def cO (σ : mS) (s k : Nat) : Nat := (σ.1 15 (4 * s + k)).toNatClampNeg
def qNth (a b x : Int32) : Bool := if a = 0 then decide (x - b = 0) else decide ((x - b) - (x - b) / a * a = 0) && decide (¬ (x - b) / a < 0)
def qTs (T : qqT) (σ : mS) (M : Nat → Int32) (i e : Nat) : Bool :=
  if σ.1 17 i = 0 then decide (σ.1 0 e = σ.1 18 i) else if σ.1 17 i = 1 then bt (σ.1 1 e) (tA σ i) else if σ.1 17 i = 2 then bt (σ.1 2 e) (tA σ i) else
  if σ.1 17 i = 3 then (if σ.1 18 i = 0 then decide (σ.1 3 e = σ.1 19 i) else decide (σ.1 4 e = σ.1 19 i)) else if σ.1 17 i = 4 then qNth (σ.1 18 i) (σ.1 19 i) (nI (Tix T e + 1)) else
  if σ.1 17 i = 5 then !bt (M (tA σ i)) e else if σ.1 17 i = 6 then bt (M (tA σ i)) e else if σ.1 17 i = 7 then qAny (fun x => bt (M (tB σ i)) x && Trl T (tA σ i) x e) (Tn T) else true
def qHs (σ : mS) (s k : Nat) : Bool := qAny (fun t => decide (σ.1 17 (16 * s + 4 * k + t) = 8)) (nTt σ s k)
def qBs9 (T : qqT) (σ : mS) (h : Option Nat) (s k e : Nat) : Bool := if qHs σ s k = true then decide (h = some e) else Tmb T h e
def qCp (T : qqT) (σ : mS) (M : Nat → Int32) (h : Option Nat) (s k e : Nat) : Bool := qBs9 T σ h s k e && !qAny (fun t => !qTs T σ M (16 * s + 4 * k + t) e) (nTt σ s k)
def qRw (T : qqT) (σ : mS) (M : Nat → Int32) (h : Option Nat) (s : Nat) : Nat → Nat → Bool
  | 0, e => qCp T σ M h s 0 e
  | k + 1, e => qCp T σ M h s (k + 1) e && qAny (fun f => qRw T σ M h s k f && Trl T (cO σ s (k + 1)) e f) (Tn T)
def qPt (o : Option Nat) (f : Nat → Bool) : Bool := match o with
  | none => false
  | some t => f t
theorem qPt_s (t : Nat) (f : Nat → Bool) : qPt (some t) f = f t := rfl
theorem qPt_n (f : Nat → Bool) : qPt none f = false := rfl
def qSv (T : qqT) (σ : mS) (M : Nat → Int32) (h : Option Nat) (s e : Nat) : Bool := if σ.1 21 s < 0 then qRw T σ M h s (nC σ s - 1) e else decide (σ.1 5 e = σ.1 21 s) && qPt (TH T e) (qRw T σ M h s (nC σ s - 1))
def qSet (T : qqT) (σ : mS) (h : Option Nat) : Nat → Nat → Int32
  | 0, _ => 0
  | n + 1, s => if s = n then qqM (qSv T σ (qSet T σ h n) h n) (Tn T) else qSet T σ h n s
def qMs (T : qqT) (σ : mS) (h : Option Nat) (s : Nat) : Int32 := qSet T σ h (s + 1) s
def RTs (σ : mS) (b i : Nat) : Prop := ∃ k, k < 10 ∧ σ.1 17 i = nI k ∧ (k = 0 ∨ k = 1 → ∃ a, a < 8 ∧ σ.1 18 i = nI a) ∧ (k = 2 ∨ k = 9 → ∃ a, a < 4 ∧ σ.1 18 i = nI a) ∧ (k = 3 → (∃ a, a < 2 ∧ σ.1 18 i = nI a) ∧ ∃ c, c < 10 ∧ σ.1 19 i = nI c) ∧ (k = 5 ∨ k = 6 → ∃ a, a < b ∧ σ.1 18 i = nI a ∧ σ.1 22 a = 0 ∧ σ.1 21 a < 0) ∧ (k = 7 → (∃ c, c < 4 ∧ σ.1 18 i = nI c) ∧ ∃ a, a < b ∧ σ.1 19 i = nI a ∧ σ.1 22 a = 0 ∧ σ.1 21 a < 0)
def RSl (σ : mS) (s b : Nat) : Prop := (∃ n, 1 ≤ n ∧ n ≤ 4 ∧ σ.1 14 s = nI n ∧ ∀ k, k < n → ∃ c, c ≤ 4 ∧ σ.1 16 (4 * s + k) = nI c ∧ (0 < k → ∃ j, j < 4 ∧ σ.1 15 (4 * s + k) = nI j) ∧ ∀ t, t < c → RTs σ b (16 * s + 4 * k + t)) ∧ (σ.1 21 s = -1 ∨ ∃ p, p < 4 ∧ σ.1 21 s = nI p) ∧ (∃ c, σ.1 22 s = b2 c) ∧
  (σ.1 22 s = 0 → ∀ k, k < nC σ s → qHs σ s k = false)
section RMT
variable {T : qqT} {σ : mS} {h : Option Nat}
theorem RSl.n {s b : Nat} (r : RSl σ s b) : 1 ≤ nC σ s ∧ nC σ s ≤ 4 ∧ σ.1 14 s = nI (nC σ s) := by
  obtain ⟨⟨n, n1, n2, n3, -⟩, -⟩ := r
  have : nC σ s = n := by unfold nC; rw [n3]; exact nI_clamp (by omega)
  rw [this]; exact ⟨n1, n2, n3⟩
theorem RSl.t {s b : Nat} (r : RSl σ s b) {k : Nat} (hk : k < nC σ s) : nTt σ s k ≤ 4 ∧ σ.1 16 (4 * s + k) = nI (nTt σ s k) ∧ (0 < k → cO σ s k < 4 ∧ σ.1 15 (4 * s + k) = nI (cO σ s k)) ∧ ∀ t, t < nTt σ s k → RTs σ b (16 * s + 4 * k + t) := by
  have hn := r.n
  obtain ⟨⟨n, n1, n2, n3, n4⟩, -⟩ := r
  have hnn : nC σ s = n := by unfold nC; rw [n3]; exact nI_clamp (by omega)
  obtain ⟨c, c1, c2, c3, c4⟩ := n4 k (by omega)
  have hc : nTt σ s k = c := by unfold nTt; rw [c2]; exact nI_clamp (by omega)
  rw [hc]
  refine ⟨c1, c2, fun h0 => ?_, c4⟩
  obtain ⟨j, j1, j2⟩ := c3 h0
  have : cO σ s k = j := by unfold cO; rw [j2]; exact nI_clamp (by omega)
  rw [this]; exact ⟨j1, j2⟩
theorem qTs_k {M : Nat → Int32} {i e k : Nat} (hk : k < 10) (h1 : σ.1 17 i = nI k) : qTs T σ M i e = if k = 0 then decide (σ.1 0 e = σ.1 18 i) else if k = 1 then bt (σ.1 1 e) (tA σ i) else if k = 2 then bt (σ.1 2 e) (tA σ i) else
  if k = 3 then (if σ.1 18 i = 0 then decide (σ.1 3 e = σ.1 19 i) else decide (σ.1 4 e = σ.1 19 i)) else if k = 4 then qNth (σ.1 18 i) (σ.1 19 i) (nI (Tix T e + 1)) else
  if k = 5 then !bt (M (tA σ i)) e else if k = 6 then bt (M (tA σ i)) e else if k = 7 then qAny (fun x => bt (M (tB σ i)) x && Trl T (tA σ i) x e) (Tn T) else true := by
  unfold qTs
  rw [h1, iq0 (by omega), iq1 (by omega), iq2 (by omega), iq3 (by omega), iq4 (by omega), iq5 (by omega), iq6 (by omega), iq7 (by omega)]
theorem tA_n {i a : Nat} (h : σ.1 18 i = nI a) (ha : a < 2 ^ 31) : tA σ i = a := by unfold tA; rw [h]; exact nI_clamp ha
theorem tB_n {i a : Nat} (h : σ.1 19 i = nI a) (ha : a < 2 ^ 31) : tB σ i = a := by unfold tB; rw [h]; exact nI_clamp ha
theorem qTs_cg {M M' : Nat → Int32} {b i e : Nat} (hb : b ≤ 30) (r : RTs σ b i) (hM : ∀ a, a < b → M a = M' a) : qTs T σ M i e = qTs T σ M' i e := by
  obtain ⟨k, hk, h1, -, -, -, h5, h7⟩ := r
  rw [qTs_k hk h1, qTs_k hk h1]
  by_cases c0 : k = 5 ∨ k = 6
  · obtain ⟨a, ha, h18, -⟩ := h5 c0
    rw [tA_n h18 (by omega), hM a ha]
    rcases c0 with rfl | rfl <;> rfl
  · by_cases c7 : k = 7
    · obtain ⟨-, a, ha, h19, -⟩ := h7 c7
      rw [tB_n h19 (by omega), hM a ha]
      subst c7; rfl
    · rw [if_neg (show ¬ k = 5 by omega), if_neg (show ¬ k = 5 by omega), if_neg (show ¬ k = 6 by omega), if_neg (show ¬ k = 6 by omega), if_neg c7, if_neg c7]
theorem qCp_cg {M M' : Nat → Int32} {s b k e : Nat} (hb : b ≤ 30) (r : RSl σ s b) (hk : k < nC σ s) (hM : ∀ a, a < b → M a = M' a) : qCp T σ M h s k e = qCp T σ M' h s k e := by
  unfold qCp
  rw [qAny_cg (fun t ht => by rw [qTs_cg hb ((r.t hk).2.2.2 t ht) hM])]
theorem qRw_cg {M M' : Nat → Int32} {s b : Nat} (hb : b ≤ 30) (r : RSl σ s b) (hM : ∀ a, a < b → M a = M' a) : ∀ k, k < nC σ s → ∀ e, qRw T σ M h s k e = qRw T σ M' h s k e := by
  intro k
  induction k with
  | zero => intro hk e; exact qCp_cg hb r hk hM
  | succ k ih =>
    intro hk e
    show (qCp T σ M h s (k + 1) e && qAny (fun f => qRw T σ M h s k f && Trl T (cO σ s (k + 1)) e f) (Tn T)) = _
    rw [qCp_cg hb r hk hM, qAny_cg (fun f _ => by rw [ih (by omega) f])]
    rfl
theorem qSv_cg {M M' : Nat → Int32} {s b : Nat} (hb : b ≤ 30) (r : RSl σ s b) (hM : ∀ a, a < b → M a = M' a) (e : Nat) : qSv T σ M h s e = qSv T σ M' h s e := by
  have hn := r.n
  unfold qSv
  rw [show qRw T σ M h s (nC σ s - 1) = qRw T σ M' h s (nC σ s - 1) from funext (fun t => qRw_cg hb r hM _ (by omega) t)]
theorem qSet_eq {n s : Nat} (h9 : s < n) : qSet T σ h n s = qMs T σ h s := by
  induction n with
  | zero => omega
  | succ n ih =>
    by_cases c : s = n
    · subst c; rfl
    · show (if s = n then _ else qSet T σ h n s) = _
      rw [if_neg c]; exact ih (by omega)
theorem qMs_eq {s : Nat} (hs : s ≤ 30) (r : RSl σ s s) : qMs T σ h s = qqM (qSv T σ (qMs T σ h) h s) (Tn T) := by
  show (if s = s then qqM (qSv T σ (qSet T σ h s) h s) (Tn T) else _) = _
  rw [if_pos rfl]
  exact qqM_congr (fun e _ => qSv_cg hs r (fun a ha => qSet_eq ha) e)
theorem qqM_b {f : Nat → Bool} {n i : Nat} (hn : n ≤ 30) (hi : i < n) : bt (qqM f n) i = f i := by rw [qqM_bt f n (by omega) i (by omega), decide_eq_true hi, Bool.true_and]
theorem qCp_in {M : Nat → Int32} {s k e : Nat} (he : e < Tn T) (hc : qCp T σ M h s k e = true) : inT T h e := by
  unfold qCp qBs9 at hc
  simp only [Bool.and_eq_true] at hc
  refine ⟨he, ?_⟩
  by_cases c : qHs σ s k = true
  · rw [if_pos c] at hc; exact Or.inr (of_decide_eq_true hc.1)
  · rw [if_neg c] at hc; exact Or.inl hc.1
theorem qRw_cp {M : Nat → Int32} {s k e : Nat} (hq : qRw T σ M h s k e = true) : qCp T σ M h s k e = true := by
  cases k with
  | zero => exact hq
  | succ k =>
    have hq : (qCp T σ M h s (k + 1) e && qAny (fun f => qRw T σ M h s k f && Trl T (cO σ s (k + 1)) e f) (Tn T)) = true := hq
    exact ((Bool.and_eq_true _ _).mp hq).1
theorem qRw_in {M : Nat → Int32} {s k e : Nat} (he : e < Tn T) (hq : qRw T σ M h s k e = true) : inT T h e := qCp_in he (qRw_cp hq)
theorem r_nth (a b x : Int32) : f_nth a b x = some (b2 (qNth a b x)) := by
  unfold f_nth f_nth_40 f_nth_41 qNth
  by_cases c : a = 0
  · rw [if_pos c, if_pos c]
    by_cases d : x - b = 0
    · rw [if_pos d, decide_eq_true d]; rfl
    · rw [if_neg d, decide_eq_false d]; rfl
  · rw [if_neg c, if_neg c]
    unfold rm dv
    rw [if_neg c, qqx, if_neg c]
    by_cases d : (x - b) - (x - b) / a * a = 0
    · rw [if_pos d, qqx, decide_eq_true d]
      by_cases f : (x - b) / a < 0
      · rw [if_pos f, decide_eq_false (fun z => z f)]; rfl
      · rw [if_neg f, decide_eq_true f]; rfl
    · rw [if_neg d, decide_eq_false d]; rfl
def RMs (T : qqT) (σ : mS) (M : Nat → Int32) (h : Option Nat) (b : Nat) (τ : mS) : Prop := RT T τ ∧ τ.2 71 = qqO h ∧ (∀ q, h = some q → q < Tn T) ∧ τ.2 72 = qqM (Tmb T h) (Tn T) ∧ (∀ f, f ∈ [0, 1, 2, 3, 4, 5, 14, 15, 16, 17, 18, 19, 21] → τ.1 f = σ.1 f) ∧ ∀ a, a < b → τ.1 73 a = M a
theorem r_hasIn (hw : Tw T) {M : Nat → Int32} {b : Nat} {τ : mS} (m : RMs T σ M h b τ) (hb : b ≤ 30) {c a e : Nat} (hc : c < 4) (ha : a < b) (he : inT T h e) (hM : ∀ x, x < Tn T → bt (M a) x = true → inT T h x) : f_hasIn (nI c) (nI a) (nI e) τ = some (b2 (qAny (fun x => bt (M a) x && Trl T c x e) (Tn T))) := by
  have h30 := hw.n30
  obtain ⟨m1, m2, m3, -, -, m6⟩ := m
  have key : ∀ d m x, x + d = Tn T → d < m → f_hasIn_6 m (nI c) (nI a) (nI e) (b2 (qAny (fun x => bt (M a) x && Trl T c x e) x)) (nI x) τ = some (b2 (qAny (fun x => bt (M a) x && Trl T c x e) (Tn T))) := by
    intro d
    induction d with
    | zero =>
      intro m x hx hm
      obtain ⟨m, rfl⟩ : ∃ m', m = m' + 1 := ⟨m - 1, by omega⟩
      have hx : x = Tn T := by omega
      subst hx
      rw [f_hasIn_6, m1.n, if_pos (Int32.le_refl _), b2_rz]
    | succ d ih =>
      intro m x hx hm
      obtain ⟨m, rfl⟩ : ∃ m', m = m' + 1 := ⟨m - 1, by omega⟩
      have hxn : x < Tn T := by omega
      rw [f_hasIn_6, m1.n, if_neg (nI_ge (by omega) (by omega)), rd_73 (by omega), qqx, m6 a ha, r_bit _ (by omega), qqx, b2_i0]
      unfold f_hasIn_47 f_hasIn_48
      have go : ∀ y : Bool, y = (bt (M a) x && Trl T c x e) → f_hasIn_6 m (nI c) (nI a) (nI e) (b2 (qAny (fun x => bt (M a) x && Trl T c x e) x) ||| b2 y) (nI (x + 1)) τ = some (b2 (qAny (fun x => bt (M a) x && Trl T c x e) (Tn T))) := by
        intro y hy
        rw [or_b2, ← ih m (x + 1) (by omega) (by omega), hy, Bool.or_comm]
        rfl
      rw [nI_1]
      cases hbx : bt (M a) x with
      | false => rw [if_neg (by decide)]; exact go false (by rw [hbx]; rfl)
      | true =>
        rw [if_pos rfl, r_related hw m1 m2 m3 hc (hM x hxn hbx) he, qqx, b2_i0]
        cases ht : Trl T c x e with
        | false => rw [if_neg (by decide)]; exact go false (by rw [ht, Bool.and_false])
        | true => rw [if_pos rfl]; exact go true (by rw [hbx, ht]; rfl)
  have := key (Tn T) 4000 0 (by omega) (by omega)
  exact this
theorem r_passes (hw : Tw T) {M : Nat → Int32} {b i e : Nat} {τ : mS} (m : RMs T σ M h b τ) (hb : b ≤ 30) (hi : i < 496) (r : RTs σ b i) (he : inT T h e) (hM : ∀ a, a < b → σ.1 22 a = 0 → σ.1 21 a < 0 → ∀ x, x < Tn T → bt (M a) x = true → inT T h x) : f_passes (nI i) (nI e) τ = some (b2 (qTs T σ M i e)) := by
  have h30 := hw.n30
  have hen := he.1
  obtain ⟨m1, m2, m3, m4, m5, m6⟩ := id m
  obtain ⟨k, hk, h1, h01, h29, h3, h56, h7⟩ := r
  have dz : ∀ (c : Prop) [Decidable c], (if c then rz 1 else rz 0) = some (b2 (decide c)) := fun c _ => by
    by_cases d : c
    · rw [if_pos d, decide_eq_true d]; rfl
    · rw [if_neg d, decide_eq_false d]; rfl
  rw [qTs_k hk h1]
  unfold f_passes f_passes_83 f_passes_127 f_passes_137 f_passes_172
  rw [rd_18 hi, qqx, rd_19 hi, qqx, rd_17 hi, qqx, m5 17 (by decide), m5 18 (by decide), m5 19 (by decide), h1, iq0 (by omega), iq1 (by omega), iq2 (by omega), iq3 (by omega), iq4 (by omega), iq5 (by omega), iq6 (by omega), iq7 (by omega)]
  by_cases c0 : k = 0
  · rw [if_pos c0, if_pos c0, rd_0 (by omega), qqx, m5 0 (by decide), dz]
  rw [if_neg c0, if_neg c0]
  by_cases c1 : k = 1
  · obtain ⟨a, ha, h18⟩ := h01 (Or.inr c1)
    rw [if_pos c1, if_pos c1, rd_1 (by omega), qqx, m5 1 (by decide), h18, tA_n h18 (by omega), r_bit _ (by omega), qqx, b2_rz]
  rw [if_neg c1, if_neg c1]
  by_cases c2 : k = 2
  · obtain ⟨a, ha, h18⟩ := h29 (Or.inl c2)
    rw [if_pos c2, if_pos c2, rd_2 (by omega), qqx, m5 2 (by decide), h18, tA_n h18 (by omega), r_bit _ (by omega), qqx, b2_rz]
  rw [if_neg c2, if_neg c2]
  by_cases c3 : k = 3
  · rw [if_pos c3, if_pos c3, rd_3 (by omega), rd_4 (by omega), qqx, qqx, m5 3 (by decide), m5 4 (by decide), dz, dz]
    by_cases d : σ.1 18 i = 0
    · rw [if_pos d, if_pos d]
    · rw [if_neg d, if_neg d]
  rw [if_neg c3, if_neg c3]
  by_cases c4 : k = 4
  · rw [if_pos c4, if_pos c4, r_placeOf hw m1 hen, qqx, nI_1, r_nth, qqx, b2_rz]
  rw [if_neg c4, if_neg c4]
  by_cases c5 : k = 5
  · obtain ⟨a, ha, h18, -⟩ := h56 (Or.inl c5)
    rw [if_pos c5, if_pos c5, h18, tA_n h18 (by omega), rd_73 (by omega), qqx, m6 a ha, r_bit _ (by omega), qqx, b2_i0]
    cases bt (M a) e <;> rfl
  rw [if_neg c5, if_neg c5]
  by_cases c6 : k = 6
  · obtain ⟨a, ha, h18, -⟩ := h56 (Or.inr c6)
    rw [if_pos c6, if_pos c6, h18, tA_n h18 (by omega), rd_73 (by omega), qqx, m6 a ha, r_bit _ (by omega), qqx, b2_rz]
  rw [if_neg c6, if_neg c6]
  by_cases c7 : k = 7
  · obtain ⟨⟨c, hc, h18⟩, a, ha, h19, i1, i2⟩ := h7 c7
    rw [if_pos c7, if_pos c7, h18, h19, tA_n h18 (by omega), tB_n h19 (by omega), r_hasIn hw m hb hc ha he (hM a ha i1 i2), qqx, b2_rz]
  · rw [if_neg c7, if_neg c7]; rfl
end RMT
