def sAg (n : Nat) (σ σ' : mS) : Prop := (∀ s, s < n → σ'.1 14 s = σ.1 14 s ∧ σ'.1 21 s = σ.1 21 s ∧ σ'.1 22 s = σ.1 22 s) ∧ (∀ i, i < 4 * n → σ'.1 15 i = σ.1 15 i ∧ σ'.1 16 i = σ.1 16 i) ∧ (∀ i, i < 16 * n → σ'.1 17 i = σ.1 17 i ∧ σ'.1 18 i = σ.1 18 i ∧ σ'.1 19 i = σ.1 19 i) ∧ ∀ f, f ∈ [0, 1, 2, 3, 4, 5] → σ'.1 f = σ.1 f
section SAG
variable {T : qqT} {G : qqG} {L : qqL} {A A' : kA} {ex ex' : Nat → Nat → Prop} {K K' : kS} {S S' : cS} {σ σ' : mS} {v v' n : Nat} {h : Option Nat}
theorem sAg_nC (a : sAg n σ σ') {s : Nat} (hs : s < n) : nC σ' s = nC σ s := by unfold nC; rw [(a.1 s hs).1]
theorem sAg_nT (a : sAg n σ σ') {s k : Nat} (hs : s < n) (hk : k < 4) : nTt σ' s k = nTt σ s k := by unfold nTt; rw [(a.2.1 (4 * s + k) (by omega)).2]
theorem sAg_cO (a : sAg n σ σ') {s k : Nat} (hs : s < n) (hk : k < 4) : cO σ' s k = cO σ s k := by unfold cO; rw [(a.2.1 (4 * s + k) (by omega)).1]
theorem sAg_tA (a : sAg n σ σ') {i : Nat} (hi : i < 16 * n) : tA σ' i = tA σ i := by unfold tA; rw [(a.2.2.1 i hi).2.1]
theorem sAg_tB (a : sAg n σ σ') {i : Nat} (hi : i < 16 * n) : tB σ' i = tB σ i := by unfold tB; rw [(a.2.2.1 i hi).2.2]
theorem sAg_qTs (a : sAg n σ σ') {i : Nat} (hi : i < 16 * n) (M : Nat → Int32) (e : Nat) : qTs T σ' M i e = qTs T σ M i e := by
  unfold qTs
  rw [sAg_tA a hi, sAg_tB a hi, (a.2.2.1 i hi).1, (a.2.2.1 i hi).2.1, (a.2.2.1 i hi).2.2, a.2.2.2 0 (by decide), a.2.2.2 1 (by decide), a.2.2.2 2 (by decide), a.2.2.2 3 (by decide), a.2.2.2 4 (by decide)]
theorem sAg_qHs (a : sAg n σ σ') {s b k : Nat} (hs : s < n) (r : RSl σ s b) (hk : k < nC σ s) : qHs σ' s k = qHs σ s k := by
  have hn := r.n
  have ht := (r.t hk).1
  unfold qHs
  rw [sAg_nT a hs (by omega)]
  exact qAny_cg (fun t ht2 => by rw [(a.2.2.1 (16 * s + 4 * k + t) (by omega)).1])
theorem sAg_qCp (a : sAg n σ σ') {s b k : Nat} (hs : s < n) (r : RSl σ s b) (hk : k < nC σ s) (M : Nat → Int32) (e : Nat) : qCp T σ' M h s k e = qCp T σ M h s k e := by
  have hn := r.n
  have ht := (r.t hk).1
  unfold qCp qBs9
  rw [sAg_qHs a hs r hk, sAg_nT a hs (by omega), qAny_cg (fun t ht2 => by rw [sAg_qTs a (i := 16 * s + 4 * k + t) (by omega)])]
theorem sAg_qRw (a : sAg n σ σ') {s b : Nat} (hs : s < n) (r : RSl σ s b) (M : Nat → Int32) : ∀ k, k < nC σ s → ∀ e, qRw T σ' M h s k e = qRw T σ M h s k e := by
  have hn := r.n
  intro k
  induction k with
  | zero => intro hk e; exact sAg_qCp a hs r hk M e
  | succ k ih =>
    intro hk e
    show (qCp T σ' M h s (k + 1) e && qAny (fun f => qRw T σ' M h s k f && Trl T (cO σ' s (k + 1)) e f) (Tn T)) = (qCp T σ M h s (k + 1) e && qAny (fun f => qRw T σ M h s k f && Trl T (cO σ s (k + 1)) e f) (Tn T))
    rw [sAg_qCp a hs r hk M e, sAg_cO a hs (by omega), qAny_cg (fun f _ => by rw [ih (by omega) f])]
theorem sAg_qSv (a : sAg n σ σ') {s b : Nat} (hs : s < n) (r : RSl σ s b) (M : Nat → Int32) (e : Nat) : qSv T σ' M h s e = qSv T σ M h s e := by
  have hn := r.n
  unfold qSv
  rw [sAg_nC a hs, (a.1 s hs).2.1, a.2.2.2 5 (by decide), show qRw T σ' M h s (nC σ s - 1) = qRw T σ M h s (nC σ s - 1) from funext (fun e => sAg_qRw a hs r M _ (by omega) e)]
theorem sAg_qSet (a : sAg n σ σ') (r : ∀ s, s < n → RSl σ s s) : ∀ m, m ≤ n → qSet T σ' h m = qSet T σ h m := by
  intro m
  induction m with
  | zero => intro _; rfl
  | succ m ih =>
    intro hm
    have i1 := ih (by omega)
    funext s
    show (if s = m then qqM (qSv T σ' (qSet T σ' h m) h m) (Tn T) else qSet T σ' h m s) = (if s = m then qqM (qSv T σ (qSet T σ h m) h m) (Tn T) else qSet T σ h m s)
    rw [i1, show qSv T σ' (qSet T σ h m) h m = qSv T σ (qSet T σ h m) h m from funext (fun e => sAg_qSv a (by omega) (r m (by omega)) _ e)]
theorem sAg_qMs (a : sAg n σ σ') (r : ∀ s, s < n → RSl σ s s) {s : Nat} (hs : s < n) : qMs T σ' h s = qMs T σ h s := by
  unfold qMs
  rw [sAg_qSet a r (s + 1) (by omega)]
theorem sAg_RTs (a : sAg n σ σ') {b i : Nat} (hb : b ≤ n) (hi : i < 16 * n) (r : RTs σ b i) : RTs σ' b i := by
  obtain ⟨k, k1, k2, k3, k4, k5, k6, k7⟩ := r
  obtain ⟨e1, e2, e3⟩ := a.2.2.1 i hi
  refine ⟨k, k1, by rw [e1]; exact k2, by rw [e2]; exact k3, by rw [e2]; exact k4, by rw [e2, e3]; exact k5, fun z => ?_, fun z => ?_⟩
  · obtain ⟨y, y1, y2, y3, y4⟩ := k6 z
    exact ⟨y, y1, by rw [e2]; exact y2, by rw [(a.1 y (by omega)).2.2]; exact y3, by rw [(a.1 y (by omega)).2.1]; exact y4⟩
  · obtain ⟨z1, y, y1, y2, y3, y4⟩ := k7 z
    exact ⟨by rw [e2]; exact z1, y, y1, by rw [e3]; exact y2, by rw [(a.1 y (by omega)).2.2]; exact y3, by rw [(a.1 y (by omega)).2.1]; exact y4⟩
theorem sAg_RSl (a : sAg n σ σ') {s b : Nat} (hs : s < n) (hb : b ≤ n) (r : RSl σ s b) : RSl σ' s b := by
  have hn := r.n
  have r0 := r
  obtain ⟨⟨m, m1, m2, m3, m4⟩, r2, r3, r4⟩ := r
  obtain ⟨e1, e2, e3⟩ := a.1 s hs
  have nCm : nC σ s = m := by unfold nC; rw [m3]; exact nI_clamp (by omega)
  refine ⟨⟨m, m1, m2, by rw [e1]; exact m3, fun k hk => ?_⟩, by rw [e2]; exact r2, by rw [e3]; exact r3, by rw [e3, sAg_nC a hs]; exact fun z k hk => by rw [sAg_qHs a hs r0 hk]; exact r4 z k hk⟩
  obtain ⟨c, c1, c2, c3, c4⟩ := m4 k hk
  obtain ⟨f1, f2⟩ := a.2.1 (4 * s + k) (by omega)
  exact ⟨c, c1, by rw [f2]; exact c2, by rw [f1]; exact c3, fun t ht => sAg_RTs a hb (by omega) (c4 t ht)⟩
theorem sAg_KSl (a : sAg n σ σ') {s r b : Nat} (hr : r < n) (rs : RSl σ r b) (sl : KSl ex K σ s r) : KSl ex K σ' s r := by
  have hn := rs.n
  obtain ⟨e1, e2, e3⟩ := a.1 r hr
  obtain ⟨s1, s2⟩ := sl
  refine ⟨by rw [sAg_nC a hr, e2, e3]; exact s1, fun k hk => ?_⟩
  rw [sAg_nC a hr] at hk
  obtain ⟨x1, x2, x3, x4, x5, x6, x7, x8, x9⟩ := s2 k hk
  obtain ⟨f1, f2⟩ := a.2.1 (4 * r + k) (by omega)
  have ht := (rs.t hk).1
  refine ⟨x1, by rw [f2]; exact x2, by rw [sAg_qHs a hr rs hk]; exact x3, by rw [f1]; exact x4, x5, x6, x7, by rw [sAg_nC a hr]; exact x8, fun t htt => ?_⟩
  rw [sAg_nT a hr (by omega)] at htt
  obtain ⟨g1, g2, g3⟩ := a.2.2.1 (16 * r + 4 * k + t) (by omega)
  rw [g1, g2, g3]
  exact x9 t htt
theorem sAg_qIn (a : sAg n σ σ') {s b : Nat} (hs : s < n) (rs : RSl σ s b) (x : Nat) : qIn σ' s x ↔ qIn σ s x := by
  have hn := rs.n
  have key : ∀ k t, k < nC σ s → t < nTt σ s k → 16 * s + 4 * k + t < 16 * n := fun k t hk ht => by
    have := (rs.t hk).1
    omega
  unfold qIn
  constructor
  · rintro ⟨k, t, hk, ht, hq⟩
    rw [sAg_nC a hs] at hk
    rw [sAg_nT a hs (by omega)] at ht
    have hi := key k t hk ht
    rw [(a.2.2.1 _ hi).1, sAg_tA a hi, sAg_tB a hi] at hq
    exact ⟨k, t, hk, ht, hq⟩
  · rintro ⟨k, t, hk, ht, hq⟩
    have hi := key k t hk ht
    refine ⟨k, t, by rw [sAg_nC a hs]; exact hk, by rw [sAg_nT a hs (by omega)]; exact ht, ?_⟩
    rw [(a.2.2.1 _ hi).1, sAg_tA a hi, sAg_tB a hi]
    exact hq
theorem KMt.ag {PI PR : Nat → Nat → Nat → Prop} (m : KMt T G ex K σ v) (mono : ∀ a b, ex a b → ex' a b) (b : kB PI PR K K') (h1 : ∀ k i j, PI k i j → (k ≤ 16 ∨ 34 ≤ k ∨ Gs G ≤ i) ∧ ¬ (k = 52 ∧ j = 2) ∧ ¬ (k = 50 ∧ j = 3) ∧ k ≠ 55 ∧ k ≠ 56 ∧ k ≠ 57) (h2 : ∀ k i j, PR k i j → (k ≤ 16 ∨ 34 ≤ k ∨ Gs G ≤ i) ∧ k ≠ 53) (ag : sAg (Gs G) σ σ') : KMt T G ex' K' σ' v := by
  obtain ⟨m1, m2, m3, m4, ⟨m5, m6⟩, m7, m8⟩ := m
  have n17 : ∀ k i j, 17 ≤ k → k ≤ 33 → i < Gs G → ¬ PI k i j := fun k i j a b c z => by have := (h1 k i j z).1; omega
  have e57 : ∀ t, K'.1 57 0 t = K.1 57 0 t := fun t => b.1 _ _ _ (fun z => (h1 _ _ _ z).2.2.2.2.2 rfl)
  have e56 : ∀ t, K'.1 56 0 t = K.1 56 0 t := fun t => b.1 _ _ _ (fun z => (h1 _ _ _ z).2.2.2.2.1 rfl)
  have e55 : ∀ t s, K'.1 55 t s = K.1 55 t s := fun t s => b.1 _ _ _ (fun z => (h1 _ _ _ z).2.2.2.1 rfl)
  have e50 : K'.1 50 0 3 = K.1 50 0 3 := b.1 _ _ _ (fun z => (h1 _ _ _ z).2.2.1 ⟨rfl, rfl⟩)
  have rsl : ∀ s, s < Gs G → RSl σ s s := fun s hs => (m1 s hs).2.2.2
  refine ⟨fun s hs => ?_, fun s hs => ?_, ?_, m4, ⟨by rw [e50]; exact m5, fun t ht => by rw [e57]; exact m6 t ht⟩, fun t ht s hs hb => ?_, fun h hh hv s hs hb => ?_⟩
  · obtain ⟨a1, a2, a3, a4⟩ := m1 s hs
    exact ⟨sAg_KSl ag hs a4 (KSl_ex mono (a1.keep a4.n.2.1 b (fun k j h1 h2 => n17 k s j h1 h2 hs) (fun k j h3 h4 z => by have := (h2 k s j z).1; omega))), by rw [b.1 _ _ _ (n17 17 s 3 (by decide) (by decide) hs)]; exact a2, by rw [b.2 _ _ _ (fun z => (h2 _ _ _ z).2 rfl)]; exact a3, sAg_RSl ag hs (by omega) a4⟩
  · obtain ⟨a1, a2, a3⟩ := m2 s hs
    rw [b.1 _ _ _ (n17 17 s 9 (by decide) (by decide) hs)]
    refine ⟨a1, fun j hj hb => ?_, fun a ha => a3 a ((sAg_qIn ag hs (rsl s hs) a).mp ha)⟩
    have := a2 j hj hb
    rw [b.1 _ _ _ (n17 17 j 9 (by decide) (by decide) (by omega))]
    exact this
  · rw [b.1 _ _ _ (fun z => (h1 _ _ _ z).2.1 ⟨rfl, rfl⟩)]; exact m3
  · rw [e56] at hb; exact m7 t ht s hs hb
  · rw [e57, e50] at hv
    rw [e56] at hb
    rw [e55, sAg_qMs ag rsl hs]; exact m8 h hh hv s hs hb
end SAG
