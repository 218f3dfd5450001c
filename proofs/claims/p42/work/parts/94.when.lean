section WHN
variable {T : qqT} {G : qqG} {L : qqL} {A : kA} {ex : Nat → Nat → Prop} {K K' : kS} {S S' : cS} {σ σ' : mS} {v v' nw k : Nat}
theorem sJU.l {T : Type} {L : List Nat} {J1 : cS → mS → Prop} {c : Nat} {S : cS} {y : Int32} {σ : mS} (h : lcdL L c 1 = some y) (k : ∀ n, S.2 ≤ n → J1 (S.1, n) (sf σ 81 y)) : sJU L J1 (some ((.inl c : Nat ⊕ T), S)) (some (sf σ 81 y)) := ⟨_, _, rfl, rfl, by rw [sf_s]; exact h, k⟩
theorem sJU.r {T : Type} {L : List Nat} {J1 : cS → mS → Prop} {S : cS} {u : T} {σ : mS} (h0 : σ.2 81 = 0) (k : ∀ n, S.2 ≤ n → J1 (S.1, n) σ) : sJU L J1 (some ((.inr u : Nat ⊕ T), S)) (some σ) := ⟨_, _, rfl, rfl, by rw [h0]; rfl, k⟩
theorem c_isNumber (x : Int32) : f_X11_isNumber x = some (b2 (decide (-9999 ≤ x ∧ x ≤ 9999))) := by
  unfold f_X11_isNumber f_X11_isNumber_18 f_X11_isNumber_19
  by_cases h0 : x < -9999
  · rw [if_pos h0, decide_eq_false (fun z => absurd h0 (Int32.not_lt.mpr z.1))]; rfl
  · rw [if_neg h0]
    by_cases h1 : 9999 < x
    · rw [if_pos h1, decide_eq_false (fun z => absurd z.2 (Int32.not_le.mpr h1))]; rfl
    · rw [if_neg h1, decide_eq_true ⟨Int32.not_lt.mp h0, Int32.not_lt.mp h1⟩]; rfl
theorem r_isRule (j : J0 T G L ex K σ v) (x : Int32) : f_isRule x σ = some (b2 (decide (0 ≤ x ∧ x < nI (Gr G)))) := by
  have hg := j.2.1.1.r40
  unfold f_isRule
  rw [j.2.1.1.rn, r_in0 x (n := Gr G) (by omega) rfl, qqx, rz_b2]
theorem sq_when {T : qqT} {G : qqG} {L : qqL} {A : kA} {ex : Nat → Nat → Prop} {K : kS} {v nw k : Nat} {S : cS} {σ : mS} (w : JW k T G L A ex K v nw S σ) (a1 a2 a3 : Int32) : sJU [2, 0] (JP (pf T G σ (P_al T G σ)) (k + 1)) (f_X11_when 1 a1 a2 a3 S) (f_when a1 a2 a3 σ) := by
  obtain ⟨⟨hw, hA, hin⟩, h49, -, j⟩ := id w
  have q := j.1.1
  have hk := j.2.1.1.r40
  refine at49 (P := fun x => sJU [2, 0] (JP (pf T G σ (P_al T G σ)) (k + 1)) (f_X11_when x a1 a2 a3 S) (f_when a1 a2 a3 σ)) h49 ?_
  unfold f_X11_when f_when f_when_41 f_X11_when_20 f_X11_when_27
  rw [q.2.1.r11 hA, qqx, r_isRule j, qqx]
  rcases ix_cases a1 (n := Gr G) (by omega) with ⟨x, hx, rfl⟩ | hx
  · rw [c_ruleY j hA hx, qqx, if_dt (nI_inn hx (by omega)), r_inm a2 (n := 5) (by decide) (by decide), qqx, r_in, qqx]
    have no : sJU [2, 0] (JP (pf T G σ (P_al T G σ)) (k + 1)) (f_X11_when_32 (A 49 0) a2 a3 (some (A 11 x)) 1 S) (f_when_42 (nI x) a2 a3 2 σ) := by
      unfold f_X11_when_32 f_when_42 f_when_66
      rw [c_refA1, qqx, r_holds2, qqx]
      exact sJU.l rfl (w.no 2)
    have core : sJU [2, 0] (JP (pf T G σ (P_al T G σ)) (k + 1)) (f_X11_when_32 (A 49 0) a2 a3 (some (A 11 x)) 0 S) (f_when_42 (nI x) a2 a3 0 σ) := by
      unfold f_X11_when_32 f_when_42 f_when_66
      rw [c_refA0, qqx, r_holds0, qqx, if_pos rfl, wr_34 (by omega), qqx, wr_35 (by omega), qqx]
      have j0 := j.scR (scR_sf σ 0)
      have x11 := (j.2.1.2.1.2.1 x hx).1 11 (by decide) (by decide)
      obtain ⟨S1, e1, h1⟩ := hA.PI (k := 11) (i := x) (t := 6) (j := 4) x11 rfl (by decide) a2
      obtain ⟨S2, e2, h2⟩ := h1.PI (k := 11) (i := x) (t := 6) (j := 5) x11 rfl (by decide) a3
      have b : kB caI F3 K (kwI (kwI K 11 x 4 a2) 11 x 5 a3) := ((kB.rf K).I (Or.inr (Or.inl ⟨by decide, by decide⟩))).I (Or.inr (Or.inl ⟨by decide, by decide⟩))
      have s : sB [30, 34, 35] [50] (sf σ 81 0) (up (up (sf σ 81 0) 34 x a2) 35 x a3) := ((sB.rf _).up (by simp)).up (by simp)
      have s' : sB caL [50] (sf σ 81 0) (up (up (sf σ 81 0) 34 x a2) 35 x a3) := s.wd (fun f hf => by revert f; decide) (fun f hf => hf)
      have o : ∀ a b c, ¬ (a = 11 ∧ b = x ∧ (c = 4 ∨ c = 5)) → (kwI (kwI K 11 x 4 a2) 11 x 5 a3).1 a b c = K.1 a b c := fun a b c h => (kwI_row (fun z => h ⟨z.1, z.2.1, Or.inr z.2.2⟩)).trans (kwI_row (fun z => h ⟨z.1, z.2.1, Or.inl z.2.2⟩))
      have s34 : ∀ r, (up (up (sf σ 81 0) 34 x a2) 35 x a3).1 34 r = if r = x then a2 else σ.1 34 r := fun r => by rw [up_o (by decide), up_s]; rfl
      have s35 : ∀ r, (up (up (sf σ 81 0) 34 x a2) 35 x a3).1 35 r = if r = x then a3 else σ.1 35 r := fun r => by rw [up_s, up_o (by decide)]; rfl
      have kc : KC T G ex (kwI (kwI K 11 x 4 a2) 11 x 5 a3) (up (up (sf σ 81 0) 34 x a2) 35 x a3) := j0.2.1.2.1.cgK (fun _ _ _ => rfl) (fun r hr => ⟨by rw [o _ _ _ (by omega), up_o (by decide), up_o (by decide)]; exact (j0.2.1.2.1.1 r hr).2.2.2.2.2.1, fun j hj => o _ _ _ (by omega)⟩) (fun r hr => by
        refine ⟨?_, ?_, o _ _ _ (by omega), o _ _ _ (by omega)⟩
        · rw [s34]
          by_cases c : r = x
          · rw [if_pos c, c, kwI_row (by omega), kwI_s]
          · rw [if_neg c, o _ _ _ (by omega)]; exact (j0.2.1.2.1.2.1 r hr).2.2.2.2.2.1
        · rw [s35]
          by_cases c : r = x
          · rw [if_pos c, c, kwI_s]
          · rw [if_neg c, o _ _ _ (by omega)]; exact (j0.2.1.2.1.2.1 r hr).2.2.2.2.2.2.1) (fun e => o _ _ _ (by omega)) ⟨by rw [o _ _ _ (by omega)]; exact j0.2.1.2.1.2.2.2.1.2.2.1, o _ _ _ (by omega), o _ _ _ (by omega)⟩ (fun s => o _ _ _ (by omega)) s'
      have ca : JCa T G ex (kwI (kwI K 11 x 4 a2) 11 x 5 a3) (up (up (sf σ 81 0) 34 x a2) 35 x a3) := JCa_K j0.2.1 (RC_up j0.2.1.1 s' (fun r hr => by rw [up_o (by decide), up_o (by decide)]; exact (j0.2.1.1.2.2.1 r hr).2.2.2.2)) kc (fun r j _ => o _ _ _ (by omega)) (fun k r j h => o _ _ _ (by omega)) (fun j h9 => o _ _ _ (by omega)) s
      have j1 := j0.ca b s' ca (j0.2.2.2.2.2.2.2.cgC s' (by rw [up_o (by decide), up_o (by decide)]) (fun r hr _ => by rw [s35, if_neg (by omega)]; rfl))
      obtain ⟨S3, σ3, e3, e4, z1, z2⟩ := w.all h2 j1 b s' s
      have q1 := j1.1.1
      rw [e4, qqx]
      show sJU _ _ ((pI S (some (A 11 x)) 6 4 a2).bind _) _
      rw [e1, qqx, e2, qqx, q1.2.1.r11 h2, qqx, e3, qqx]
      exact sJU.r z1 z2
    have num : sJU [2, 0] (JP (pf T G σ (P_al T G σ)) (k + 1)) ((f_X11_isNumber a3).bind (fun v1 => if v1 = 0 then f_X11_when_32 (A 49 0) a2 a3 (some (A 11 x)) 1 S else f_X11_when_32 (A 49 0) a2 a3 (some (A 11 x)) 0 S)) (if b2 (decide (-9999 ≤ a3 ∧ a3 ≤ 9999)) = 0 then f_when_42 (nI x) a2 a3 2 σ else f_when_42 (nI x) a2 a3 0 σ) := by
      rw [c_isNumber, qqx]
      by_cases c : -9999 ≤ a3 ∧ a3 ≤ 9999
      · rw [if_dt c, if_dt c]; exact core
      · rw [if_df c, if_df c]; exact no
    by_cases hm : a2 = -1
    · rw [decide_eq_true hm, Bool.true_or, if_neg (by decide)]
      show sJU _ _ (if a2 = -1 then _ else _) _
      rw [if_pos hm]
      exact num
    · rw [decide_eq_false hm, Bool.false_or]
      show sJU _ _ (if a2 = -1 then _ else (f_X11_isBelow a2 (nI 5)).bind _) _
      rw [if_neg hm, c_isBelow, qqx]
      by_cases c : 0 ≤ a2 ∧ a2 < nI 5
      · rw [if_dt c, if_dt c]; exact num
      · rw [if_df c, if_df c]; exact no
  · rw [c_ruleN j hA hx, qqx, if_df hx]
    unfold f_when_42 f_when_66
    rw [r_holds1, qqx]
    exact sJU.l rfl (w.no 1)
end WHN
