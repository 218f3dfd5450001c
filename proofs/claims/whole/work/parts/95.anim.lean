/-! MATHS, 66: animations -/
def anI (k _i _j : Nat) : Prop := k = 34 ∨ k = 36 ∨ k = 37
section ANM
variable {T : qqT} {G : qqG} {L : qqL} {A : kA} {ex : Nat → Nat → Prop} {K K' : kS} {S S' : cS} {σ σ' : mS} {v v' nw k : Nat}
theorem J0.an (j : J0 T G L ex K σ v) (b : kB anI F3 K K') (s : sB [60, 61, 62, 63, 64] [] σ σ') (ra : RAn σ') (an : anEq K' σ') : J0 T G L ex K' σ' v := by
  obtain ⟨t, ca, ⟨-, -, n3, n4, n5, n6⟩, va, mk, ⟨m, s26⟩, d, fr⟩ := j
  refine ⟨(t.kp b (fun k i j z => by unfold anI at z; unfold dTI; omega) (fun _ _ _ z => z.elim)).cg (fun f hf => s.1 f (by revert f; decide)) (s.2 13 (by decide)), (ca.kp b (fun k i j z => by unfold anI at z; unfold dCI; omega) (fun _ _ _ z => z.elim)).cg (fun f hf => s.1 f (by revert f; decide)) (fun f hf => s.2 f (by simp)), ⟨ra, an, n3.cg (fun f hf => s.1 f (by revert f; decide)) (s.2 54 (by simp)), by rw [s.2 54 (by simp), b.1 49 0 6 (by unfold anI; omega)]; exact n4, n5.cg (fun f hf => s.1 f (by revert f; decide)) (s.2 70 (by simp)), ?_⟩, (va.kp b (fun k i j z => by unfold anI at z; omega)).cg (fun f hf => s.1 f (by revert f; decide)) (s.2 48 (by simp)), (mk.kp b (fun k i j z => by unfold anI at z; omega)).cg (fun f hf => s.2 f (by simp)), ⟨(m.keep b (fun k i j z => by unfold anI at z; omega) (fun _ _ _ z => z.elim)).cg (fun f hf => s.1 f (by revert f; decide)), by rw [s.2 26 (by simp)]; exact s26⟩, (d.kp b (fun k i j z => by unfold anI at z; omega) (fun _ _ _ z => z.elim)).cg (fun f hf => s.1 f (by revert f; decide)), fr.cg (fun f hf => s.1 f (by revert f; decide)) (fun e _ _ => rY.of (fun f hf => s.1 f (by revert f; decide)))⟩
  refine ⟨by rw [b.1 49 0 5 (by unfold anI; omega)]; exact n6.1, fun k hk => ?_⟩
  rw [b.1 38 k 1 (by unfold anI; omega), b.1 38 k 3 (by unfold anI; omega), b.2 63 0 k (fun z => z), b.2 38 k 0 (fun z => z), b.2 38 k 2 (fun z => z)]
  exact n6.2 k hk
theorem c_animY (p9 : KP ex K) (h : KA A ex K S) {a : Nat} (ha : a < 4) : f_X11_animationAt (A 49 0) (nI a) S = some (some (A 34 a)) := by
  unfold f_X11_animationAt f_X11_animationAt_18
  rw [show (4 : Int32) = nI 4 from rfl, c_isBelow, qqx, if_dt (nI_inn ha (by decide)), h.R 49 11 (p9.x (by decide) (by decide) (by decide)) rfl, p9.2.1.2.2.2.1, qqx]
  show ((aR S (some (A 62 0)) 30 (nI a)).bind _) = _
  rw [h.AR 62 30 4 (p9.x (by decide) (by decide) (by decide)) rfl (by omega), (p9.2.2.2.2.1 a (by omega)).1, qqx]
  rfl
theorem c_animN {x : Int32} (hx : ¬ (0 ≤ x ∧ x < nI 4)) : f_X11_animationAt (A 49 0) x S = some none := by
  unfold f_X11_animationAt f_X11_animationAt_18
  rw [show (4 : Int32) = nI 4 from rfl, c_isBelow, qqx, if_df hx]
theorem in_1 (x : Int32) (n : Nat) (h : x ≤ OfNat.ofNat n ∧ 1 ≤ x) (hn : n < 2 ^ 31) : ∃ d, 1 ≤ d ∧ d ≤ n ∧ x = nI d := by
  obtain ⟨h1, h2⟩ := h
  have h1' : x ≤ nI n := h1
  rw [Int32.le_iff_toInt_le, nI_toInt hn] at h1'
  rw [Int32.le_iff_toInt_le, show (1 : Int32).toInt = 1 by decide] at h2
  refine ⟨x.toInt.toNat, by omega, by omega, Int32.toInt_inj.mp ?_⟩
  rw [nI_toInt (by omega)]
  omega
theorem simJ_animation : sim_animation (J k) (J (k + 1)) := by
  intro S σ a1 a2 a3 a4 h ha4
  obtain ⟨T, G, L, A, ex, K, v, nw, w⟩ := h
  obtain ⟨⟨hw, hA, hin⟩, h49, -, j⟩ := id w
  obtain ⟨is, rfl⟩ := f2_b ha4
  have q := j.1.1
  refine at49 (P := fun x => sJU [0] (J (k + 1)) (f_X11_animation x a1 a2 a3 (b2 is) S) (f_animation a1 a2 a3 (b2 is) σ)) h49 ?_
  unfold f_X11_animation f_animation f_animation_38 f_X11_animation_35
  have no : ∀ S', S' = S → sJU [0] (J (k + 1)) (some ((.inl 0 : Nat ⊕ Unit), S')) (f_animation_39 a1 a2 a3 (b2 is) 1 σ) := by
    rintro _ rfl
    unfold f_animation_39 f_animation_75
    rw [r_holds1, qqx]
    exact sJU.l rfl (w.no 1)
  rw [q.2.1.r11 hA, qqx, r_in0 a1 (n := 4) (by decide) (by decide), qqx]
  rcases ix_cases a1 (n := 4) (by decide) with ⟨a, ha, rfl⟩ | hx
  · rw [c_animY q.2.1 hA ha, qqx, if_neg (fun z => by cases z), if_dt (nI_inn ha (by decide)), r_in, qqx, r_in, qqx]
    by_cases c1 : a2 < 1
    · rw [if_pos c1, if_df (fun z => absurd c1 (Int32.not_lt.mpr z.1))]; exact no _ rfl
    · rw [if_neg c1]
      by_cases c2 : 1000 < a2
      · rw [if_pos c2, if_df (fun z => absurd c2 (Int32.not_lt.mpr z.2))]; exact no _ rfl
      · rw [if_neg c2, if_dt ⟨Int32.not_lt.mp c1, Int32.not_lt.mp c2⟩]
        by_cases c3 : a3 < 1
        · rw [if_pos c3, if_df (fun z => absurd c3 (Int32.not_lt.mpr z.1))]; exact no _ rfl
        · rw [if_neg c3]
          by_cases c4 : a3 ≤ 100
          · rw [if_pos c4, if_dt ⟨Int32.not_lt.mp c3, c4⟩]
            obtain ⟨d2, d21, d22, d23⟩ := in_1 a2 1000 ⟨Int32.not_lt.mp c2, Int32.not_lt.mp c1⟩ (by decide)
            obtain ⟨d3, d31, d32, d33⟩ := in_1 a3 100 ⟨c4, Int32.not_lt.mp c3⟩ (by decide)
            have x34 : ex 34 a := (q.2.1.1.2.2.1 a ha).1
            obtain ⟨S1, e1, h1⟩ := hA.PI (k := 34) (i := a) (t := 0) (j := 0) x34 rfl (by decide) a2
            obtain ⟨S2, e2, h2⟩ := h1.PI (k := 34) (i := a) (t := 0) (j := 1) x34 rfl (by decide) a3
            obtain ⟨S3, e3, h3⟩ := h2.PI (k := 34) (i := a) (t := 0) (j := 2) x34 rfl (by decide) (b2 is)
            have b : kB anI F3 K (kwI (kwI (kwI K 34 a 0 a2) 34 a 1 a3) 34 a 2 (b2 is)) := (((kB.rf K).I (Or.inl rfl)).I (Or.inl rfl)).I (Or.inl rfl)
            have s : sB [60, 61, 62, 63, 64] [] (sf σ 81 0) (up (up (up (sf σ 81 0) 60 a a2) 61 a a3) 62 a (b2 is)) := (((sB.rf _).up (by simp)).up (by simp)).up (by simp)
            have j0 := j.scR (scR_sf σ 0)
            obtain ⟨⟨r1, r2⟩, an⟩ : RAn (sf σ 81 0) ∧ anEq K (sf σ 81 0) := ⟨j0.2.2.1.1, j0.2.2.1.2.1⟩
            have s60 : ∀ x, (up (up (up (sf σ 81 0) 60 a a2) 61 a a3) 62 a (b2 is)).1 60 x = if x = a then a2 else (sf σ 81 0).1 60 x := fun x => by rw [up_o (by decide), up_o (by decide), up_s]
            have s61 : ∀ x, (up (up (up (sf σ 81 0) 60 a a2) 61 a a3) 62 a (b2 is)).1 61 x = if x = a then a3 else (sf σ 81 0).1 61 x := fun x => by rw [up_o (by decide), up_s, up_o (by decide)]
            have s62 : ∀ x, (up (up (up (sf σ 81 0) 60 a a2) 61 a a3) 62 a (b2 is)).1 62 x = if x = a then b2 is else (sf σ 81 0).1 62 x := fun x => by rw [up_s, up_o (by decide), up_o (by decide)]
            have s63 : (up (up (up (sf σ 81 0) 60 a a2) 61 a a3) 62 a (b2 is)).1 63 = (sf σ 81 0).1 63 := by rw [up_o (by decide), up_o (by decide), up_o (by decide)]
            have s64 : (up (up (up (sf σ 81 0) 60 a a2) 61 a a3) 62 a (b2 is)).1 64 = (sf σ 81 0).1 64 := by rw [up_o (by decide), up_o (by decide), up_o (by decide)]
            have o : ∀ x, (kwI (kwI (kwI K 34 a 0 a2) 34 a 1 a3) 34 a 2 (b2 is)).1 34 x 0 = (if x = a then a2 else K.1 34 x 0) ∧ (kwI (kwI (kwI K 34 a 0 a2) 34 a 1 a3) 34 a 2 (b2 is)).1 34 x 1 = (if x = a then a3 else K.1 34 x 1) ∧ (kwI (kwI (kwI K 34 a 0 a2) 34 a 1 a3) 34 a 2 (b2 is)).1 34 x 2 = (if x = a then b2 is else K.1 34 x 2) := by
              intro x
              unfold kwI
              by_cases c : x = a
              · simp [c]
              · simp [c]
            have j1 : J0 T G L ex _ _ v := j0.an b s ⟨fun x hx => by
              rw [s60, s61, s62]
              by_cases c : x = a
              · rw [if_pos c, if_pos c, if_pos c]; exact ⟨⟨d2, d21, d22, d23⟩, ⟨d3, d31, d32, d33⟩, is, rfl⟩
              · rw [if_neg c, if_neg c, if_neg c]; exact r1 x hx, fun i hi => by rw [s63, s64]; exact r2 i hi⟩ (fun x hx => by
              obtain ⟨o1, o2, o3⟩ := o x
              obtain ⟨a1, a2', a3', a4⟩ := an x hx
              rw [s60, s61, s62, o1, o2, o3]
              refine ⟨?_, ?_, ?_, fun p hp => ?_⟩
              · by_cases c : x = a
                · rw [if_pos c, if_pos c]
                · rw [if_neg c, if_neg c]; exact a1
              · by_cases c : x = a
                · rw [if_pos c, if_pos c]
                · rw [if_neg c, if_neg c]; exact a2'
              · by_cases c : x = a
                · rw [if_pos c, if_pos c]
                · rw [if_neg c, if_neg c]; exact a3'
              · unfold aSt aFn
                rw [s63, s64]
                exact a4 p hp)
            unfold f_animation_39 f_animation_74 f_animation_75
            rw [e1, qqx, e2, qqx, pZ_b2, e3, qqx, r_holds0, qqx, if_pos rfl, wr_60 (by omega), qqx, wr_61 (by omega), qqx, wr_62 (by omega), wr_62 (by omega), b2_i0]
            have fin := sJU.r (T := Unit) (L := [0]) (u := ()) (S := S3) (show (up (up (up (sf σ 81 0) 60 a a2) 61 a a3) 62 a (b2 is)).2 81 = 0 from rfl) (w.to h3 (hin.kp b (fun i j => by unfold anI; omega)) j1 (by omega) rfl)
            cases is with
            | true => rw [if_pos rfl]; exact fin
            | false => rw [if_neg (by decide)]; exact fin
          · rw [if_neg c4, if_df (fun z => c4 z.2)]; exact no _ rfl
  · rw [c_animN hx, qqx, if_pos rfl, if_df hx]; exact no _ rfl
end ANM
