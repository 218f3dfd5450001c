section TS4
variable {T : qqT} {G : qqG} {L : qqL} {A A' : kA} {ex ex' : Nat → Nat → Prop} {K K' : kS} {S S' : cS} {σ σ' : mS} {v v' n k c : Nat} {x1 x2 x3 : Int32}
theorem c_addTestI (d : drC ex K n k c) (hc : c < 4) (hA : KA A ex K S) {a : Nat} (xa : ex 17 a) (han : a ≠ n) {o oa h ha : Bool} (h7 : K.1 17 n 7 = b2 o) (ha7 : K.1 17 a 7 = b2 oa) (h8' : K.1 17 n 8 = b2 h) (ha8 : K.1 17 a 8 = b2 ha) (x1 x2 x3 : Int32) : ∃ S' K', f_X7_addTest (A 17 n) x1 x2 x3 (some (A 17 a)) S = some S' ∧ KA A ex K' S' ∧ kB (tsP n k c) F3 K K' ∧ (K'.1 (18 + k) n 4 = nI (c + 1) ∧ K'.1 (18 + k) n 5 = K.1 (18 + k) n 5) ∧ (K'.1 (22 + k) n c = x1 ∧ K'.1 (26 + k) n c = x2 ∧ K'.1 (30 + k) n c = x3) ∧ (K'.1 17 n 4 = K.1 17 n 4 ∧ K'.1 17 n 5 = K.1 17 n 5) ∧ (K'.1 (18 + k) n 6 = (if x1 ≠ 7 ∧ K.1 17 a 2 ≤ 1 then K.1 (18 + k) n 6 ||| K.1 17 a 10 else K.1 (18 + k) n 6) ∧ K'.1 (18 + k) n 7 = (if x1 ≠ 7 ∧ K.1 17 a 2 ≤ 1 then K.1 (18 + k) n 7 ||| K.1 17 a 11 else K.1 (18 + k) n 7 ||| K.1 17 a 12) ∧ K'.1 (18 + k) n 8 = K.1 (18 + k) n 8 ||| K.1 17 a 12) ∧ K'.1 17 n 6 = K.1 17 n 6 + K.1 17 a 6 ∧ K'.1 17 n 7 = K.1 17 n 7 ||| K.1 17 a 7 ∧ K'.1 17 n 8 = K.1 17 n 8 ||| b2 (ha || decide (x1 = 7)) ∧ K'.1 17 n 9 = K.1 17 n 9 ||| K.1 17 a 9 := by
  have hk := d.2.1
  obtain ⟨S4, h4, run⟩ := c_add4 d hc hA x1 x2 x3
  have b4 : kB (tsP n k c) F3 K (ts4 K n k c x1 x2 x3) := ((((kB.rf K).I (by unfold tsP; omega)).I (by unfold tsP; omega)).I (by unfold tsP; omega)).I (by unfold tsP; omega)
  have r4 : ∀ s j, (ts4 K n k c x1 x2 x3).1 17 s j = K.1 17 s j := fun s j => by unfold ts4; rw [kwI_row (by omega), kwI_row (by omega), kwI_row (by omega), kwI_row (by omega)]
  have q4 : ∀ j, j ≠ 4 → (ts4 K n k c x1 x2 x3).1 (18 + k) n j = K.1 (18 + k) n j := fun j hj => by unfold ts4; rw [kwI_row (by omega), kwI_row (by omega), kwI_row (by omega), kwI_row (by omega)]
  have q44 : (ts4 K n k c x1 x2 x3).1 (18 + k) n 4 = nI (c + 1) := kwI_s _ _ _ _ _
  have q22 : (ts4 K n k c x1 x2 x3).1 (22 + k) n c = x1 ∧ (ts4 K n k c x1 x2 x3).1 (26 + k) n c = x2 ∧ (ts4 K n k c x1 x2 x3).1 (30 + k) n c = x3 := by
    unfold ts4
    refine ⟨?_, ?_, ?_⟩
    · rw [kwI_row (by omega), kwI_row (by omega), kwI_row (by omega), kwI_s]
    · rw [kwI_row (by omega), kwI_row (by omega), kwI_s]
    · rw [kwI_row (by omega), kwI_s]
  have e42 : (ts4 K n k c x1 x2 x3).2 = K.2 := rfl
  generalize ts4 K n k c x1 x2 x3 = K4 at h4 b4 r4 q4 q44 q22 e42
  have lst : ∀ (K' : kS) (S' : cS), KA A ex K' S' → K'.2 = K4.2 → gR S' (some (A 17 n)) 7 1 = some (some (A (18 + k) n)) := fun K' S' h e => d.l h (e.trans e42)
  have aI : ∀ (K' : kS) (S' : cS), KA A ex K' S' → ∀ j, gI S' (some (A 17 a)) 7 j = some (K'.1 17 a j) := fun K' S' h j => h.I 17 7 xa rfl
  obtain ⟨S5, e5, h5⟩ := d.dP h4 6 (K.1 17 n 6 + K.1 17 a 6)
  obtain ⟨S6, e6, h6⟩ := d.dP h5 9 (K.1 17 n 9 ||| K.1 17 a 9)
  obtain ⟨S7, e7, h7'⟩ := d.dP h6 7 (K.1 17 n 7 ||| K.1 17 a 7)
  obtain ⟨S8, e8, h8⟩ := d.dP h7' 8 (K.1 17 n 8 ||| b2 (ha || decide (x1 = 7)))
  have e7' : pZ S6 (some (A 17 n)) 7 7 (K.1 17 n 7 ||| K.1 17 a 7) = some S7 := by
    rw [h7, ha7, b2_or] at e7 ⊢
    rw [pZ_b2]; exact e7
  have e8' : pZ S7 (some (A 17 n)) 7 8 (K.1 17 n 8 ||| b2 (ha || decide (x1 = 7))) = some S8 := by
    rw [h8', b2_or] at e8 ⊢
    rw [pZ_b2]; exact e8
  have g56 : gI S4 (some (A 17 n)) 7 6 = some (K.1 17 n 6) := by rw [d.dI h4, r4]
  have a56 : gI S4 (some (A 17 a)) 7 6 = some (K.1 17 a 6) := by rw [aI _ _ h4, r4]
  have g69 : gI S5 (some (A 17 n)) 7 9 = some (K.1 17 n 9) := by rw [d.dI h5, kwI_row (by omega), r4]
  have a69 : gI S5 (some (A 17 a)) 7 9 = some (K.1 17 a 9) := by rw [aI _ _ h5, kwI_row (by omega), r4]
  have g77 : gI S6 (some (A 17 n)) 7 7 = some (K.1 17 n 7) := by rw [d.dI h6, kwI_row (by omega), kwI_row (by omega), r4]
  have a77 : gI S6 (some (A 17 a)) 7 7 = some (K.1 17 a 7) := by rw [aI _ _ h6, kwI_row (by omega), kwI_row (by omega), r4]
  have g88 : gI S7 (some (A 17 n)) 7 8 = some (K.1 17 n 8) := by rw [d.dI h7', kwI_row (by omega), kwI_row (by omega), kwI_row (by omega), r4]
  have a88 : gI S7 (some (A 17 a)) 7 8 = some (b2 ha) := by rw [aI _ _ h7', kwI_row (by omega), kwI_row (by omega), kwI_row (by omega), r4, ha8]
  have b8 : kB (tsP n k c) F3 K (kwI (kwI (kwI (kwI K4 17 n 6 (K.1 17 n 6 + K.1 17 a 6)) 17 n 9 (K.1 17 n 9 ||| K.1 17 a 9)) 17 n 7 (K.1 17 n 7 ||| K.1 17 a 7)) 17 n 8 (K.1 17 n 8 ||| b2 (ha || decide (x1 = 7)))) := (((b4.I (by unfold tsP; omega)).I (by unfold tsP; omega)).I (by unfold tsP; omega)).I (by unfold tsP; omega)
  have z6 : (kwI (kwI (kwI (kwI K4 17 n 6 (K.1 17 n 6 + K.1 17 a 6)) 17 n 9 (K.1 17 n 9 ||| K.1 17 a 9)) 17 n 7 (K.1 17 n 7 ||| K.1 17 a 7)) 17 n 8 (K.1 17 n 8 ||| b2 (ha || decide (x1 = 7)))).1 17 n 6 = K.1 17 n 6 + K.1 17 a 6 := by rw [kwI_row (by omega), kwI_row (by omega), kwI_row (by omega), kwI_s]
  have z9 : (kwI (kwI (kwI (kwI K4 17 n 6 (K.1 17 n 6 + K.1 17 a 6)) 17 n 9 (K.1 17 n 9 ||| K.1 17 a 9)) 17 n 7 (K.1 17 n 7 ||| K.1 17 a 7)) 17 n 8 (K.1 17 n 8 ||| b2 (ha || decide (x1 = 7)))).1 17 n 9 = K.1 17 n 9 ||| K.1 17 a 9 := by rw [kwI_row (by omega), kwI_row (by omega), kwI_s]
  have z7 : (kwI (kwI (kwI (kwI K4 17 n 6 (K.1 17 n 6 + K.1 17 a 6)) 17 n 9 (K.1 17 n 9 ||| K.1 17 a 9)) 17 n 7 (K.1 17 n 7 ||| K.1 17 a 7)) 17 n 8 (K.1 17 n 8 ||| b2 (ha || decide (x1 = 7)))).1 17 n 7 = K.1 17 n 7 ||| K.1 17 a 7 := by rw [kwI_row (by omega), kwI_s]
  have z8 : (kwI (kwI (kwI (kwI K4 17 n 6 (K.1 17 n 6 + K.1 17 a 6)) 17 n 9 (K.1 17 n 9 ||| K.1 17 a 9)) 17 n 7 (K.1 17 n 7 ||| K.1 17 a 7)) 17 n 8 (K.1 17 n 8 ||| b2 (ha || decide (x1 = 7)))).1 17 n 8 = K.1 17 n 8 ||| b2 (ha || decide (x1 = 7)) := kwI_s _ _ _ _ _
  have zo : ∀ j, j = 4 ∨ j = 5 → (kwI (kwI (kwI (kwI K4 17 n 6 (K.1 17 n 6 + K.1 17 a 6)) 17 n 9 (K.1 17 n 9 ||| K.1 17 a 9)) 17 n 7 (K.1 17 n 7 ||| K.1 17 a 7)) 17 n 8 (K.1 17 n 8 ||| b2 (ha || decide (x1 = 7)))).1 17 n j = K.1 17 n j := fun j hj => by rw [kwI_row (by omega), kwI_row (by omega), kwI_row (by omega), kwI_row (by omega), r4]
  have za : ∀ j, (kwI (kwI (kwI (kwI K4 17 n 6 (K.1 17 n 6 + K.1 17 a 6)) 17 n 9 (K.1 17 n 9 ||| K.1 17 a 9)) 17 n 7 (K.1 17 n 7 ||| K.1 17 a 7)) 17 n 8 (K.1 17 n 8 ||| b2 (ha || decide (x1 = 7)))).1 17 a j = K.1 17 a j := fun j => by rw [kwI_row (by omega), kwI_row (by omega), kwI_row (by omega), kwI_row (by omega), r4]
  have zc : ∀ b j, 18 ≤ b → (kwI (kwI (kwI (kwI K4 17 n 6 (K.1 17 n 6 + K.1 17 a 6)) 17 n 9 (K.1 17 n 9 ||| K.1 17 a 9)) 17 n 7 (K.1 17 n 7 ||| K.1 17 a 7)) 17 n 8 (K.1 17 n 8 ||| b2 (ha || decide (x1 = 7)))).1 b n j = K4.1 b n j := fun b j hb => by rw [kwI_row (by omega), kwI_row (by omega), kwI_row (by omega), kwI_row (by omega)]
  have head : f_X7_addTest (A 17 n) x1 x2 x3 (some (A 17 a)) S = (f_X7_addInner_62 (A 17 n) x1 (some (A 17 a)) (some (A 17 n)) (K.1 17 n 8) (b2 (ha || decide (x1 = 7))) S7).bind (fun v23 => some v23) := by
    rw [run (some (A 17 a)), if_neg (fun z => by cases z), d.dR h4, qqx]
    congr 1
    unfold f_X7_addInner f_X7_addInner_57
    rw [g56, qqx, a56, qqx, e5, qqx, g69, qqx, a69, qqx, e6, qqx, g77, qqx, a77, qqx, e7', qqx, g88, qqx, a88, qqx, b2_i0]
    cases ha with
    | true => rw [if_pos rfl]; rfl
    | false =>
      rw [if_neg (by decide)]
      by_cases z : x1 = 7
      · rw [if_pos z, decide_eq_true z]; rfl
      · rw [if_neg z, decide_eq_false z]; rfl
  generalize hK8 : kwI (kwI (kwI (kwI K4 17 n 6 (K.1 17 n 6 + K.1 17 a 6)) 17 n 9 (K.1 17 n 9 ||| K.1 17 a 9)) 17 n 7 (K.1 17 n 7 ||| K.1 17 a 7)) 17 n 8 (K.1 17 n 8 ||| b2 (ha || decide (x1 = 7))) = K8 at h8 b8 z6 z9 z7 z8 zo za zc
  have e82 : K8.2 = K4.2 := by rw [← hK8]; rfl
  obtain ⟨S9, e9, h9⟩ := d.cP h8 8 (K.1 (18 + k) n 8 ||| K.1 17 a 12)
  have g98 : gI S8 (some (A (18 + k) n)) 2 8 = some (K.1 (18 + k) n 8) := by rw [d.cI h8, zc _ _ (by omega), q4 8 (by decide)]
  have a98 : gI S8 (some (A 17 a)) 7 12 = some (K.1 17 a 12) := by rw [aI _ _ h8, za]
  have a92 : gI S9 (some (A 17 a)) 7 2 = some (K.1 17 a 2) := by rw [aI _ _ h9, kwI_row (by omega), za]
  have b9 : kB (tsP n k c) F3 K (kwI K8 (18 + k) n 8 (K.1 (18 + k) n 8 ||| K.1 17 a 12)) := b8.I (by unfold tsP; omega)
  have g9c : ∀ j, j ≠ 4 → j ≠ 8 → gI S9 (some (A (18 + k) n)) 2 j = some (K.1 (18 + k) n j) := fun j h4 h8 => by rw [d.cI h9, kwI_row (by omega), zc _ _ (by omega), q4 j h4]
  have a9 : ∀ j, gI S9 (some (A 17 a)) 7 j = some (K.1 17 a j) := fun j => by rw [aI _ _ h9, kwI_row (by omega), za]
  have l9 : gR S9 (some (A 17 n)) 7 1 = some (some (A (18 + k) n)) := lst _ _ h9 e82
  rw [head]
  unfold f_X7_addInner_62 f_X7_addInner_96 f_X7_addInner_147
  rw [e8', qqx, lst _ _ h8 e82, qqx, g98, qqx, a98, qqx, e9, qqx]
  have far : ∀ (p : Prop) [Decidable p], ¬ p → ∃ S' K', (gR S9 (some (A 17 n)) 7 1).bind (fun v1 => (gI S9 v1 2 7).bind (fun v2 => (gI S9 (some (A 17 a)) 7 12).bind (fun v3 => (pI S9 v1 2 7 (v2 ||| v3)).bind (fun v4 => some v4)))) = some S' ∧ KA A ex K' S' ∧ kB (tsP n k c) F3 K K' ∧ (K'.1 (18 + k) n 4 = nI (c + 1) ∧ K'.1 (18 + k) n 5 = K.1 (18 + k) n 5) ∧ (K'.1 (22 + k) n c = x1 ∧ K'.1 (26 + k) n c = x2 ∧ K'.1 (30 + k) n c = x3) ∧ (K'.1 17 n 4 = K.1 17 n 4 ∧ K'.1 17 n 5 = K.1 17 n 5) ∧ (K'.1 (18 + k) n 6 = (if p then K.1 (18 + k) n 6 ||| K.1 17 a 10 else K.1 (18 + k) n 6) ∧ K'.1 (18 + k) n 7 = (if p then K.1 (18 + k) n 7 ||| K.1 17 a 11 else K.1 (18 + k) n 7 ||| K.1 17 a 12) ∧ K'.1 (18 + k) n 8 = K.1 (18 + k) n 8 ||| K.1 17 a 12) ∧ K'.1 17 n 6 = K.1 17 n 6 + K.1 17 a 6 ∧ K'.1 17 n 7 = K.1 17 n 7 ||| K.1 17 a 7 ∧ K'.1 17 n 8 = K.1 17 n 8 ||| b2 (ha || decide (x1 = 7)) ∧ K'.1 17 n 9 = K.1 17 n 9 ||| K.1 17 a 9 := by
    intro p _ hp
    obtain ⟨S10, e10, h10⟩ := d.cP h9 7 (K.1 (18 + k) n 7 ||| K.1 17 a 12)
    refine ⟨S10, _, ?_, h10, b9.I (by unfold tsP; omega), ⟨?_, ?_⟩, ⟨?_, ?_, ?_⟩, ⟨?_, ?_⟩, ⟨?_, ?_, ?_⟩, ?_, ?_, ?_, ?_⟩
    · rw [l9, qqx, g9c 7 (by decide) (by decide), qqx, a9, qqx, e10, qqx]
    · rw [kwI_row (by omega), kwI_row (by omega), zc _ _ (by omega), q44]
    · rw [kwI_row (by omega), kwI_row (by omega), zc _ _ (by omega), q4 5 (by decide)]
    · rw [kwI_row (by omega), kwI_row (by omega), zc _ _ (by omega)]; exact q22.1
    · rw [kwI_row (by omega), kwI_row (by omega), zc _ _ (by omega)]; exact q22.2.1
    · rw [kwI_row (by omega), kwI_row (by omega), zc _ _ (by omega)]; exact q22.2.2
    · rw [kwI_row (by omega), kwI_row (by omega), zo 4 (Or.inl rfl)]
    · rw [kwI_row (by omega), kwI_row (by omega), zo 5 (Or.inr rfl)]
    · rw [if_neg hp, kwI_row (by omega), kwI_row (by omega), zc _ _ (by omega), q4 6 (by decide)]
    · rw [if_neg hp, kwI_s]
    · rw [kwI_row (by omega), kwI_s]
    · rw [kwI_row (by omega), kwI_row (by omega), z6]
    · rw [kwI_row (by omega), kwI_row (by omega), z7]
    · rw [kwI_row (by omega), kwI_row (by omega), z8]
    · rw [kwI_row (by omega), kwI_row (by omega), z9]
  by_cases c7 : x1 = 7
  · rw [if_pos c7]
    obtain ⟨S', K', f1, f2⟩ := far (x1 ≠ 7 ∧ K.1 17 a 2 ≤ 1) (fun z => z.1 c7)
    exact ⟨S', K', by rw [f1]; rfl, f2⟩
  · rw [if_neg c7, a92, qqx]
    by_cases c2 : K.1 17 a 2 ≤ 1
    · rw [if_pos c2]
      obtain ⟨S10, e10, h10⟩ := d.cP h9 6 (K.1 (18 + k) n 6 ||| K.1 17 a 10)
      obtain ⟨S11, e11, h11⟩ := d.cP h10 7 (K.1 (18 + k) n 7 ||| K.1 17 a 11)
      have l10 : gR S10 (some (A 17 n)) 7 1 = some (some (A (18 + k) n)) := lst _ _ h10 e82
      have g107 : gI S10 (some (A (18 + k) n)) 2 7 = some (K.1 (18 + k) n 7) := by rw [d.cI h10, kwI_row (by omega), kwI_row (by omega), zc _ _ (by omega), q4 7 (by decide)]
      have a10 : gI S10 (some (A 17 a)) 7 11 = some (K.1 17 a 11) := by rw [aI _ _ h10, kwI_row (by omega), kwI_row (by omega), za]
      have hp : x1 ≠ 7 ∧ K.1 17 a 2 ≤ 1 := ⟨c7, c2⟩
      refine ⟨S11, _, ?_, h11, (b9.I (by unfold tsP; omega)).I (by unfold tsP; omega), ⟨?_, ?_⟩, ⟨?_, ?_, ?_⟩, ⟨?_, ?_⟩, ⟨?_, ?_, ?_⟩, ?_, ?_, ?_, ?_⟩
      · rw [l9, qqx, g9c 6 (by decide) (by decide), qqx, a9, qqx, e10, qqx, l10, qqx, g107, qqx, a10, qqx, e11, qqx]; rfl
      · rw [kwI_row (by omega), kwI_row (by omega), kwI_row (by omega), zc _ _ (by omega), q44]
      · rw [kwI_row (by omega), kwI_row (by omega), kwI_row (by omega), zc _ _ (by omega), q4 5 (by decide)]
      · rw [kwI_row (by omega), kwI_row (by omega), kwI_row (by omega), zc _ _ (by omega)]; exact q22.1
      · rw [kwI_row (by omega), kwI_row (by omega), kwI_row (by omega), zc _ _ (by omega)]; exact q22.2.1
      · rw [kwI_row (by omega), kwI_row (by omega), kwI_row (by omega), zc _ _ (by omega)]; exact q22.2.2
      · rw [kwI_row (by omega), kwI_row (by omega), kwI_row (by omega), zo 4 (Or.inl rfl)]
      · rw [kwI_row (by omega), kwI_row (by omega), kwI_row (by omega), zo 5 (Or.inr rfl)]
      · rw [if_pos hp, kwI_row (by omega), kwI_s]
      · rw [if_pos hp, kwI_s]
      · rw [kwI_row (by omega), kwI_row (by omega), kwI_s]
      · rw [kwI_row (by omega), kwI_row (by omega), kwI_row (by omega), z6]
      · rw [kwI_row (by omega), kwI_row (by omega), kwI_row (by omega), z7]
      · rw [kwI_row (by omega), kwI_row (by omega), kwI_row (by omega), z8]
      · rw [kwI_row (by omega), kwI_row (by omega), kwI_row (by omega), z9]
    · rw [if_neg c2]
      obtain ⟨S', K', f1, f2⟩ := far (x1 ≠ 7 ∧ K.1 17 a 2 ≤ 1) (fun z => c2 z.2)
      exact ⟨S', K', by rw [f1]; rfl, f2⟩
end TS4
