def gSh (G : qqG) (h : Option Nat) : qqG := (G.1, G.2.1 + 1, G.2.2.1, G.2.2.2.1, G.2.2.2.2.1, G.2.2.2.2.2.1, fun k => if k = G.2.1 then h else G.2.2.2.2.2.2.1 k, G.2.2.2.2.2.2.2)
def shP (n k i j : Nat) : Prop := (k = 16 ∧ i = n) ∨ (k = 58 ∧ i = 0 ∧ j = 4)
def shR (n k i j : Nat) : Prop := (k = 16 ∧ i = n) ∨ (k = 59 ∧ i = 0 ∧ j = n)
section SHE
variable {T : qqT} {G : qqG} {L : qqL} {A A' : kA} {ex : Nat → Nat → Prop} {K K' : kS} {S S' : cS} {σ σ' : mS} {v v' nw9 k : Nat}
theorem KFt.b (f : KFt G K σ) (h17 : ∀ s j, K'.1 17 s j = K.1 17 s j) (h58 : ∀ j, 9 ≤ j → K'.1 58 0 j = K.1 58 0 j) : KFt G K' σ := by
  obtain ⟨f1, f2, f3, f4⟩ := f
  refine ⟨fun s hs => ?_, ?_, ?_, ?_⟩
  · rw [h17, h17, h17, h17, h17]; exact f1 s hs
  · rw [h58 9 (by decide), h58 10 (by decide)]; exact f2
  · rw [h58 11 (by decide)]; exact f3
  · rw [h58 12 (by decide)]; exact f4
theorem J0.sh (j : J0 T G L ex K σ v) {n : Nat} (hn : n = Gk G) (hn8 : n < 8) {h : Option Nat} (hh : ∀ q, h = some q → q < Tn T ∧ Ts T q = true) {o : Nat} (ho : o < 3) {lay : Int32} (hl : lay = -1 ∨ ∃ l, l < 4 ∧ lay = nI l) (b : kB (shP n) (shR n) K K') (s : sB [27, 28, 29, 30] [31] σ σ')
    (k1 : K'.1 58 0 4 = nI (n + 1) ∧ K'.1 16 n 0 = nI n ∧ K'.1 16 n 1 = nI o ∧ K'.2 16 n 2 = ro 0 h ∧ K'.1 16 n 3 = lay ∧ K'.1 16 n 4 = 1 ∧ K'.2 59 0 n = some (16, n))
    (s1 : σ'.2 31 = nI (n + 1) ∧ (σ'.1 27 n = nI o ∧ σ'.1 28 n = qqO h ∧ σ'.1 29 n = lay ∧ σ'.1 30 n = 1) ∧ ∀ i, i ≠ n → σ'.1 27 i = σ.1 27 i ∧ σ'.1 28 i = σ.1 28 i ∧ σ'.1 29 i = σ.1 29 i ∧ σ'.1 30 i = σ.1 30 i) :
    J0 T (gSh G h) L (exU ex 16 n) K' σ' v := by
  have hn' := hn
  subst hn
  have mono : ∀ a b, ex a b → exU ex 16 (Gk G) a b := fun a b h => Or.inl h
  obtain ⟨t, ⟨c1, c2, c3, c4, c5⟩, an, va, mk, ⟨m, s26⟩, d, fr⟩ := j
  obtain ⟨a1, a2, a3, a4, a5, a6, a7⟩ := c1
  obtain ⟨b1, b2', b3, b4, b5⟩ := c2
  obtain ⟨w31, ⟨w27, w28, w29, w30⟩, wo⟩ := s1
  obtain ⟨z4, z0, z1, z2, z3, z5, z6⟩ := k1
  have oI : ∀ k i j, ¬ shP (Gk G) k i j → K'.1 k i j = K.1 k i j := b.1
  have oR : ∀ k i j, ¬ shR (Gk G) k i j → K'.2 k i j = K.2 k i j := b.2
  have rc : RC T (gSh G h) σ' := by
    refine ⟨w31, (show Gk G + 1 ≤ 8 by omega), fun k hk => ?_, (s.2 36 (by decide)).trans a4, a5, fun r hr => ?_, a7⟩
    · show σ'.1 28 k = qqO (if k = Gk G then h else Gsh G k) ∧ (∀ h9, (if k = Gk G then h else Gsh G k) = some h9 → h9 < Tn T ∧ Ts T h9 = true) ∧ (∃ o, o < 3 ∧ σ'.1 27 k = nI o) ∧ (σ'.1 29 k = -1 ∨ ∃ l, l < 4 ∧ σ'.1 29 k = nI l) ∧ ∃ b, σ'.1 30 k = b2 b
      by_cases c : k = Gk G
      · rw [if_pos c, c, w27, w28, w29, w30]
        exact ⟨rfl, hh, ⟨o, ho, rfl⟩, hl, true, rfl⟩
      · obtain ⟨y1, y2, y3, y4⟩ := wo k c
        rw [if_neg c, y1, y2, y3, y4]
        exact a3 k (by have hk' : k < Gk G + 1 := hk; omega)
    · rw [s.1 32 (by decide), s.1 33 (by decide)]
      obtain ⟨y1, y2, y3, y4⟩ := a6 r hr
      exact ⟨y1, (show Gsf G r < Gk G + 1 by omega), y3, y4⟩
  have kc : KC T (gSh G h) (exU ex 16 (Gk G)) K' σ' := by
    refine ⟨fun k hk => ?_, fun r hr => ?_, fun e he => ?_, ?_, fun s1 hs => ?_⟩
    · show exU ex 16 (Gk G) 16 k ∧ K'.1 16 k 0 = nI k ∧ K'.1 16 k 1 = σ'.1 27 k ∧ K'.2 16 k 2 = ro 0 (if k = Gk G then h else Gsh G k) ∧ K'.1 16 k 3 = σ'.1 29 k ∧ K'.1 16 k 4 = σ'.1 30 k ∧ K'.2 59 0 k = some (16, k)
      by_cases c : k = Gk G
      · rw [if_pos c, c, w27, w29, w30]
        exact ⟨Or.inr ⟨rfl, rfl⟩, z0, z1, z2, z3, z5, z6⟩
      · obtain ⟨y1, y2, y3, y4⟩ := wo k c
        obtain ⟨x1, x2, x3, x4, x5, x6, x7⟩ := b1 k (by have hk' : k < Gk G + 1 := hk; omega)
        rw [if_neg c, y1, y3, y4, oI 16 k 0 (by unfold shP; omega), oI 16 k 1 (by unfold shP; omega), oI 16 k 3 (by unfold shP; omega), oI 16 k 4 (by unfold shP; omega), oR 16 k 2 (by unfold shR; omega), oR 59 0 k (by unfold shR; omega)]
        exact ⟨Or.inl x1, x2, x3, x4, x5, x6, x7⟩
    · have hf := (a6 r hr).2.1
      obtain ⟨x1, x2, x3, x4, x5, x6, x7, x8, x9, x10, x11, x12, x13⟩ := b2' r hr
      show (∀ k, 11 ≤ k → k ≤ 15 → exU ex 16 (Gk G) k r) ∧ K'.1 11 r 0 = nI r ∧ K'.2 11 r 1 = some (16, Gsf G r) ∧ K'.2 11 r 2 = some (17, Gse G r) ∧ K'.1 11 r 3 = σ'.1 27 (Gsf G r) ∧ K'.1 11 r 4 = σ'.1 34 r ∧ K'.1 11 r 5 = σ'.1 35 r ∧ K'.2 11 r 8 = some (12, r) ∧ K'.2 11 r 9 = some (13, r) ∧ K'.2 11 r 10 = some (14, r) ∧ K'.2 11 r 11 = some (15, r) ∧ K'.2 11 r 14 = (if r + 1 < Gr G then some (11, r + 1) else none) ∧ K'.2 60 0 r = some (11, r)
      rw [(wo _ (show Gsf G r ≠ Gk G by omega)).1, s.1 34 (by decide), s.1 35 (by decide), oI 11 r 0 (by unfold shP; omega), oI 11 r 3 (by unfold shP; omega), oI 11 r 4 (by unfold shP; omega), oI 11 r 5 (by unfold shP; omega), oR 11 r 1 (by unfold shR; omega), oR 11 r 2 (by unfold shR; omega), oR 11 r 8 (by unfold shR; omega), oR 11 r 9 (by unfold shR; omega), oR 11 r 10 (by unfold shR; omega), oR 11 r 11 (by unfold shR; omega), oR 11 r 14 (by unfold shR; omega), oR 60 0 r (by unfold shR; omega)]
      exact ⟨fun k h1 h2 => Or.inl (x1 k h1 h2), x2, x3, x4, x5, x6, x7, x8, x9, x10, x11, x12, x13⟩
    · rw [oI 1 e 3 (by unfold shP; omega), oR 1 e 1 (by unfold shR; omega), oR 1 e 2 (by unfold shR; omega), oR 1 e 8 (by unfold shR; omega), oR 1 e 9 (by unfold shR; omega), oR 1 e 10 (by unfold shR; omega), oR 1 e 11 (by unfold shR; omega)]
      exact b3 e he
    · rw [z4, w31, s.2 36 (by decide), s.2 50 (by decide), oI 58 0 5 (by unfold shP; omega), oI 58 0 8 (by unfold shP; omega), oR 58 0 6 (by unfold shR; omega), oR 58 0 7 (by unfold shR; omega)]
      exact ⟨rfl, b4.2⟩
    · rw [oI 17 s1 6 (by unfold shP; omega), s.1 20 (by decide)]
      exact ⟨Or.inl (b5 s1 hs).1, (b5 s1 hs).2⟩
  have ca : JCa T (gSh G h) (exU ex 16 (Gk G)) K' σ' := by
    refine ⟨rc, kc, fun a ha => ?_, ?_, ?_⟩
    · have hk := bkr_k a
      exact ((c3 a ha).cg (fun f hf => s.1 f (by revert f; decide))).cgK (fun j hj => oI _ _ _ (by unfold shP; omega)) (fun t j h1 h5 => oI _ _ _ (by unfold shP; omega))
    · have c4' : RDv T G σ' := c4.cg (fun f hf => s.1 f (by revert f; decide))
      exact c4'
    · have c5' : KFt G K' σ' := (c5.cg (fun f hf => s.1 f (by revert f; decide))).b (fun s j => oI _ _ _ (by unfold shP; omega)) (fun j hj => oI _ _ _ (by unfold shP; omega))
      exact c5'
  have m' : KMt T G (exU ex 16 (Gk G)) K' σ' v := KMt_ex mono ((m.keep b (fun k i j z => by unfold shP at z; omega) (fun k i j z => by unfold shR at z; omega)).cg (fun f hf => s.1 f (by revert f; decide)))
  have d' : JDf G (exU ex 16 (Gk G)) K' σ' := JDf_ex mono ((d.kp b (fun k i j z => by unfold shP at z; omega) (fun k i j z => by unfold shR at z; omega)).cg (fun f hf => s.1 f (by revert f; decide)))
  refine ⟨JTr_ex mono ((t.kp b (fun k i j z => by unfold shP at z; unfold dTI; omega) (fun k i j z => by unfold shR at z; unfold dTR; omega)).cg (fun f hf => s.1 f (by revert f; decide)) (s.2 13 (by decide))), ca, JAn_ex mono ((an.kp b (fun k i j z => by unfold shP at z; unfold dNI; omega) (fun k i j z => by unfold shR at z; unfold dNR; omega)).cg (fun f hf => s.1 f (by revert f; decide)) (fun f hf => s.2 f (by revert f; decide))), (va.kp b (fun k i j z => by unfold shP at z; omega)).cg (fun f hf => s.1 f (by revert f; decide)) (s.2 48 (by decide)), (mk.kp b (fun k i j z => by unfold shP at z; omega)).cg (fun f hf => s.2 f (by revert f; decide)), ⟨m', by rw [s.2 26 (by decide)]; exact s26⟩, d', ?_⟩
  have fr' : JFr T G L ex σ' := fr.cg (fun f hf => s.1 f (by revert f; decide)) (fun e _ _ => rY.of (fun f hf => s.1 f (by revert f; decide)))
  obtain ⟨⟨d1, d2, d3, d4, d5, d6⟩, d7⟩ := fr'
  refine ⟨⟨fun k e h1 h2 z => ?_, fun k h1 z => ?_, fun k r h1 h2 h3 z => ?_, fun s h1 k h2 h3 z => ?_, fun j h1 h2 => ?_, fun k h1 z => ?_⟩, d7⟩
  · exact z.elim (d1 k e h1 h2) (by omega)
  · have h1' : Gk G + 1 ≤ k := h1
    exact z.elim (d2 k (by omega)) (by omega)
  · exact z.elim (d3 k r h1 h2 h3) (by omega)
  · exact z.elim (d4 s h1 k h2 h3) (by omega)
  · obtain ⟨y1, y2, y3, y4⟩ := d5 j h1 h2
    exact ⟨fun z => z.elim y1 (by omega), fun z => z.elim y2 (by omega), fun z => z.elim y3 (by omega), fun z => z.elim y4 (by omega)⟩
  · exact z.elim (d6 k h1) (by omega)
def shK (K : kS) (n : Nat) (o : Int32) (h : Option Nat) (lay : Int32) : kS := kwI (kwR (kwI (kwR (kwI (kwI (kwI (kNw K 16 n) 16 n 4 1) 16 n 0 (nI n)) 16 n 1 o) 16 n 2 (ro 0 h)) 16 n 3 lay) 59 0 n (some (16, n))) 58 0 4 (nI (n + 1))
theorem c_addSheet (hA : KA A ex K S) {n : Nat} (hn8 : n < 8) (hx : ¬ ex 16 n) (ha : A 16 n = S.2) (h0 : S.2 ≠ 0) (x58 : ex 58 0) (x59 : ex 59 0) (k582 : K.2 58 0 2 = some (59, 0)) (k584 : K.1 58 0 4 = nI n) {h : Option Nat} (hh : ∀ q, h = some q → ex 0 q) (o lay : Int32) : ∃ S', f_X1_addSheet (A 58 0) o (el A h) lay S = some (nI (n + 1) - 1, S') ∧ KA A (exU ex 16 n) (shK K n o h lay) S' := by
  have h1 := hA.al (k := 16) (i := n) (t := 8) (N := 0) rfl hx ha h0
  have m16 : exU ex 16 n 16 n := Or.inr ⟨rfl, rfl⟩
  have m58 : exU ex 16 n 58 0 := Or.inl x58
  obtain ⟨S2, e2, h2⟩ := h1.PZ (k := 16) (i := n) (t := 8) (j := 4) m16 rfl (by decide) (v := 1) (Or.inr rfl)
  obtain ⟨S3, e3, h3⟩ := h2.PI (k := 16) (i := n) (t := 8) (j := 0) m16 rfl (by decide) (nI n)
  obtain ⟨S4, e4, h4⟩ := h3.PI (k := 16) (i := n) (t := 8) (j := 1) m16 rfl (by decide) o
  obtain ⟨S5, e5, h5⟩ := h4.PR (k := 16) (i := n) (t := 8) (j := 2) m16 rfl (by decide) (ro 0 h) (fun r z => by
    cases h with
    | none => cases z
    | some q => cases z; exact Or.inl (hh q rfl))
  obtain ⟨S6, e6, h6⟩ := h5.PI (k := 16) (i := n) (t := 8) (j := 3) m16 rfl (by decide) lay
  obtain ⟨S7, e7, h7⟩ := h6.SR (k := 59) (i := 0) (ci := 8) (N := 8) (j := n) (Or.inl x59) rfl (by decide) hn8 (some (16, n)) (fun r z => by cases z; exact ⟨m16, rfl⟩)
  obtain ⟨S8, e8, h8⟩ := h7.PI (k := 58) (i := 0) (t := 1) (j := 4) m58 rfl (by decide) (nI (n + 1))
  refine ⟨S8, ?_, h8⟩
  have g4 : gI S (some (A 58 0)) 1 4 = some (nI n) := by rw [hA.I 58 1 x58 rfl, k584]
  have g2 : gR S (some (A 58 0)) 1 2 = some (some (A 59 0)) := by rw [hA.R 58 1 x58 rfl, k582]; rfl
  have g4' : gI (na S 8 0) (some (A 58 0)) 1 4 = some (nI n) := by rw [h1.I 58 1 m58 rfl, kNw_i (by omega), k584]
  have rc' : rc (na S 8 0) (some (A 16 n)) 8 = some (A 16 n) := h1.Rc 16 8 m16 rfl
  have g47 : gI S7 (some (A 58 0)) 1 4 = some (nI n) := by
    rw [h7.I 58 1 m58 rfl, kwR_1, kwI_row (by omega), kwR_1, kwI_row (by omega), kwI_row (by omega), kwI_row (by omega), kNw_i (by omega), k584]
  have g48 : gI S8 (some (A 58 0)) 1 4 = some (nI (n + 1)) := by rw [h8.I 58 1 m58 rfl, kwI_s]
  rw [el_kp] at e5
  have e7' : sR S6 (some (A 59 0)) 8 (nI n) (some (A 16 n)) = some S7 := e7
  unfold f_X1_addSheet f_X1_addSheet_42 f_X8_init
  rw [g4, qqx, if_neg (show ¬ (8 : Int32) ≤ nI n from nI_ge (b := 8) hn8 (by decide)), g2, qqx, qqx, nw_na, g4', qqx, ← ha, rc', qqx, e2, qqx, e3, qqx, e4, qqx, e5, qqx, e6, qqx, qqx, e7', qqx, g47, qqx, nI_1, e8, qqx, g48, qqx]
theorem sB_sf2 {L1 L2 : List Nat} (s : sB L1 L2 σ σ') (f : Nat) (x : Int32) : sB L1 L2 (sf σ f x) (sf σ' f x) := ⟨s.1, fun g hg => by
  by_cases c : g = f
  · rw [c, sf_s, sf_s]
  · rw [sf_o c, sf_o c]; exact s.2 g hg⟩
theorem r_markAllE (hw : Tw T) (hr : RT T σ) : f_markAll σ = some (sf σ 49 (qqM (TD T) (Tn T))) := by
  unfold f_markAll
  rw [r_docMask hw hr, qqx]
theorem all_ref (hw : Tw T) (hA : KA A ex K S) (j : J0 T G L ex K σ v) : ∃ S' K', f_X11_markAll (A 49 0) S = some S' ∧ KA A ex K' S' ∧ J0 T G L ex K' (sf σ 49 (qqM (TD T) (Tn T))) v ∧ kB MI F3 K K' := by
  obtain ⟨S', K', σ', e1, e2, h1, j1, b1, -⟩ := all_both hw hA j
  rw [r_markAllE hw j.1.2.2.2] at e2
  cases e2
  exact ⟨S', K', e1, h1, j1, b1⟩
end SHE
