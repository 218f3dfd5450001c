section EXM
variable {T : qqT} {G : qqG} {L : qqL} {A A' : kA} {ex ex' : Nat → Nat → Prop} {K K' : kS} {S S' : cS} {σ σ' : mS} {v v' nw k : Nat}
theorem KT_ex (m : ∀ a b, ex a b → ex' a b) (t : KT T ex K) : KT T ex' K := ⟨fun e he => ⟨fun k hk => m _ _ ((t.1 e he).1 k hk), (t.1 e he).2⟩, m _ _ t.2.1, m _ _ t.2.2.1, t.2.2.2⟩
theorem KP_ex (m : ∀ a b, ex a b → ex' a b) (t : KP ex K) : KP ex' K := by
  obtain ⟨⟨a1, a2, a3, a4, a5, a6⟩, b⟩ := t
  exact ⟨⟨fun k h1 h2 h3 => m _ _ (a1 k h1 h2 h3), fun t ht => m _ _ (a2 t ht), fun a ha => ⟨m _ _ (a3 a ha).1, m _ _ (a3 a ha).2.1, m _ _ (a3 a ha).2.2⟩, fun q hq => m _ _ (a4 q hq), fun e k h1 h2 h3 => m _ _ (a5 e k h1 h2 h3), fun b k h1 h2 h3 => m _ _ (a6 b k h1 h2 h3)⟩, b⟩
theorem KQ_ex (m : ∀ a b, ex a b → ex' a b) (t : KQ T ex K) : KQ T ex' K := ⟨KT_ex m t.1, KP_ex m t.2.1, t.2.2⟩
theorem JTr_ex (m : ∀ a b, ex a b → ex' a b) (t : JTr T ex K σ) : JTr T ex' K σ := ⟨KQ_ex m t.1, t.2⟩
theorem KC_ex (m : ∀ a b, ex a b → ex' a b) (c : KC T G ex K σ) : KC T G ex' K σ := by
  obtain ⟨c1, c2, c3, c4, c5⟩ := c
  exact ⟨fun k hk => ⟨m _ _ (c1 k hk).1, (c1 k hk).2⟩, fun r hr => ⟨fun k h1 h2 => m _ _ ((c2 r hr).1 k h1 h2), (c2 r hr).2⟩, c3, c4, fun s hs => ⟨m _ _ (c5 s hs).1, (c5 s hs).2⟩⟩
theorem JCa_ex (m : ∀ a b, ex a b → ex' a b) (t : JCa T G ex K σ) : JCa T G ex' K σ := ⟨t.1, KC_ex m t.2.1, t.2.2⟩
theorem KLs_ex (m : ∀ a b, ex a b → ex' a b) (t : KLs L ex K) : KLs L ex' K := ⟨t.1, fun k hk => ⟨m _ _ (t.2 k hk).1, (t.2 k hk).2⟩⟩
theorem JAn_ex (m : ∀ a b, ex a b → ex' a b) (t : JAn T L ex K σ) : JAn T L ex' K σ := ⟨t.1, t.2.1, t.2.2.1, t.2.2.2.1, t.2.2.2.2.1, KLs_ex m t.2.2.2.2.2⟩
theorem KSl_ex (m : ∀ a b, ex a b → ex' a b) {s r : Nat} (t : KSl ex K σ s r) : KSl ex' K σ s r := by
  obtain ⟨⟨a1, a2⟩, b⟩ := t
  exact ⟨⟨m _ _ a1, a2⟩, fun k hk => by
    obtain ⟨⟨x1, x2, x3, x4⟩, y⟩ := b k hk
    exact ⟨⟨m _ _ x1, m _ _ x2, m _ _ x3, m _ _ x4⟩, y⟩⟩
theorem KMt_ex (m : ∀ a b, ex a b → ex' a b) (t : KMt T G ex K σ v) : KMt T G ex' K σ v := ⟨fun s hs => ⟨KSl_ex m (t.1 s hs).1, (t.1 s hs).2⟩, t.2⟩
theorem JDf_ex (m : ∀ a b, ex a b → ex' a b) (t : JDf G ex K σ) : JDf G ex' K σ := ⟨⟨KSl_ex m t.1.1, t.1.2⟩, t.2⟩
theorem J0_ex (m : ∀ a b, ex a b → ex' a b) (j : J0 T G L ex K σ v) (fr : JFr T G L ex' σ) : J0 T G L ex' K σ v := by
  obtain ⟨t, ca, n, va, mk, ⟨mm, s26⟩, d, -⟩ := j
  exact ⟨JTr_ex m t, JCa_ex m ca, JAn_ex m n, va, mk, ⟨KMt_ex m mm, s26⟩, JDf_ex m d, fr⟩
theorem kIn_ex (m : ∀ a b, ex a b → ex' a b) (hA : ∀ a b, ex a b → A' a b = A a b) (t : kIn A ex K) : kIn A' ex' K := ⟨m _ _ t.1, (hA _ _ t.1).trans t.2.1, t.2.2⟩
theorem el_A (hA : ∀ a b, ex a b → A' a b = A a b) (t : KT T ex K) {h : Option Nat} (hh : ∀ q, h = some q → q < Tn T) : el A' h = el A h := by
  cases h with
  | none => rfl
  | some q => rw [el_some, el_some, hA 0 q (t.E (hh q rfl) (by decide))]
end EXM
