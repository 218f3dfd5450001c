section QP
variable {mm : Nat × Nat × Nat}
variable {T T' : qqT} {G G' : qqG} {σ σ' σ0 σ1 σ2 : mS} {hl dr : Bool} {e k n x p s y : Nat} {D R : List Nat} {ch un dn : Int32}
abbrev L00 : qqL := (0, fun _ => (0, 0, 0, 0))
abbrev fl1L : List Nat := [43, 44, 45, 46, 47, 55, 56, 57, 58, 59, 69, 78, 82, 83, 84]
def FlI (T : qqT) (G : qqG) (hl : Bool) (σ0 : mS) (D : List Nat) (ch un dn : Int32) (σ : mS) : Prop :=
  ((RS T G σ ∧ RAn σ ∧ RNw σ ∧ RLs T L00 σ) ∧ rowS 75 76 σ (Tord T) ∧ RDv T G σ ∧ hitS T G σ) ∧
  (sB fl1L [48, 52, 79] σ0 σ ∧ ∀ y, y < 30 → y ∉ D → rY y σ0 σ) ∧
  (∀ e, e < Tn T → (∀ v, v < 3 → okP (rPr σ 0 e v)) ∧ ∀ p, p < 12 → bV (σ.1 43 (12 * e + p))) ∧
  ((∀ e, e < 32 → e ∉ D → bt ch e = false ∧ bt un e = false ∧ bt dn e = false) ∧ ∀ e, e < 32 → bt (σ.2 48) e = (bt (σ0.2 48) e || decide (e ∈ D))) ∧
  (∀ x, x ∈ D → cons T G σ x ∧ szOK T G σ x) ∧
  (∀ x, x ∈ D → bt (ch ||| un) x = false → rEq σ0 σ x ∧ σ.1 46 x = σ0.1 46 x) ∧
  (∀ x, x ∈ D → ∀ y, Tsp T x = some y → bt (ch ||| un) y = true → bt (ch ||| un) x = true) ∧
  σ.2 52 = σ0.2 52 + nI (D.countP (bt dn)) ∧
  (∀ e, e < Tn T → ∀ p, p < 5 → σ.1 55 (5 * e + p) = -1) ∧
  (hl = false → ∀ e, e < Tn T → σ.1 43 (12 * e + 6) ≤ 0)
theorem rY.req {y : Nat} (h : rY y σ σ') : rEq σ σ' y ∧ σ'.1 46 y = σ.1 46 y := ⟨⟨h.1, h.2.1⟩, h.2.2.1⟩
theorem rEq.tr {y : Nat} (h : rEq σ σ1 y) (k : rEq σ1 σ' y) : rEq σ σ' y := ⟨fun p hp => (k.1 p hp).trans (h.1 p hp), fun v hv => ⟨(k.2 v hv).1.trans (h.2 v hv).1, (k.2 v hv).2.trans (h.2 v hv).2⟩⟩
theorem D_anc (hw : Tw T) (ho : Tord T = D ++ e :: R) {x y : Nat} (hx : x ∈ D) (h : TB T y x = true) : y ∈ D := by
  obtain ⟨a, b, rfl⟩ := List.append_of_mem hx
  have : y ∈ a := TB_pre hw (D := a) (R := b ++ e :: R) (e := x) (by rw [ho, List.append_assoc]; rfl) h
  exact List.mem_append_left _ this
theorem D_zero (hw : Tw T) (ho : Tord T = D ++ e :: R) {x : Nat} (hx : x ∈ D) : 0 ∈ D := by
  obtain ⟨r, hr⟩ := Tord_head hw
  rw [hr] at ho
  cases D with
  | nil => cases hx
  | cons a D' =>
    have : (0 :: r).head? = some a := by rw [ho]; rfl
    cases this
    exact List.mem_cons_self
theorem D_no (hw : Tw T) (ho : Tord T = D ++ e :: R) : e ∉ D := by
  have hnd := Tord_nodup hw
  rw [ho] at hnd
  exact fun z => (List.nodup_append.mp hnd).2.2 e z e List.mem_cons_self rfl
theorem RDv.cg9 (h : RDv T G σ) (hf : ∀ f, f ∈ [37, 38, 39, 40, 41, 42] → σ'.1 f = σ.1 f) : RDv T G σ' := fun a ha p hp hd => by
  have := h a ha p hp (by unfold Ldc at hd ⊢; rw [← hf 37 (by decide)]; exact hd)
  unfold rOK at this ⊢
  rw [hf 37 (by decide), hf 38 (by decide), hf 40 (by decide), hf 41 (by decide), hf 42 (by decide)]
  exact this
theorem hitS.cg9 (h : hitS T G σ) (hf : ∀ f, f ∈ [0, 1, 2, 3, 4, 5, 14, 15, 16, 17, 18, 19, 21, 74] → σ'.1 f = σ.1 f) : hitS T G σ' := fun r hr => by
  rw [hf 74 (by decide), h r hr, qMs_cg (fun f hx => hf f (by revert f; decide))]
theorem keep_fl {L : List Nat} (s : sB fl1L L σ σ') (h50 : 50 ∉ L) : fEq G σ σ' e ∧ lEq T T G (hS T G σ) (hS T G σ') e := ⟨fEq.of (fun f hf => s.1 f (by revert f; decide)) (s.2 50 h50), hS_same (fun f hf => s.1 f (by revert f; decide)) (s.1 30 (by decide))⟩
theorem bt_q1 {b : Bool} {a : Int32} {e y : Nat} (he : e < 32) (hy : y < 32) : bt (a ||| qq1 b e) y = (bt a y || (b && decide (y = e))) := by rw [b_or, bt_qq1 he hy]
theorem FlI_next (hw : Tw T) (J : FlI T G hl σ0 D ch un dn σ) (ho : Tord T = D ++ e :: R) {c pm hd : Bool} (s : sB fl1L [48, 52, 79] σ σ') (hy : ∀ y, y < 30 → y ≠ e → rY y σ σ') (h48 : ∀ y, y < 32 → bt (σ'.2 48) y = (bt (σ.2 48) y || decide (y = e))) (rn : RNw σ') (hok : (∀ v, v < 3 → okP (rPr σ' 0 e v)) ∧ ∀ p, p < 12 → bV (σ'.1 43 (12 * e + p))) (hce : cons T G σ' e ∧ szOK T G σ' e) (hun : c = false → pm = false → rEq σ σ' e ∧ σ'.1 46 e = σ.1 46 e) (hpm : pmv T (ch ||| un) e = pm) (h52 : σ'.2 52 = σ.2 52 + (if hd = true then 1 else 0)) (h55 : ∀ p, p < 5 → σ'.1 55 (5 * e + p) = -1) (h6 : hl = false → σ'.1 43 (12 * e + 6) ≤ 0) : FlI T G hl σ0 (D ++ [e]) (ch ||| qq1 c e) (un ||| qq1 pm e) (dn ||| qq1 hd e) σ' := by
  have h30 := hw.n30
  have heo : e ∈ Tord T := by rw [ho]; exact List.mem_append_right _ List.mem_cons_self
  obtain ⟨he, hD⟩ := Tord_is hw heo
  have heD := D_no hw ho
  obtain ⟨⟨⟨j1, j2, j3, j4⟩, j5, j6, j7⟩, ⟨j8, j9⟩, j10, ⟨j11, j12⟩, j13, j14, j15, j16, j17, j18⟩ := J
  have Dn : ∀ x, x ∈ D → x < Tn T ∧ TD T x = true ∧ x ≠ e := fun x hx => by
    obtain ⟨z1, z2⟩ := Tord_is hw (show x ∈ Tord T by rw [ho]; exact List.mem_append_left _ hx)
    exact ⟨z1, z2, fun w => heD (by rw [← w]; exact hx)⟩
  have mem' : ∀ x, x ∈ D ++ [e] ↔ (x ∈ D ∨ x = e) := fun x => by rw [List.mem_append, List.mem_singleton]
  have bits : ∀ x, x < 32 → x ≠ e → bt ((ch ||| qq1 c e) ||| (un ||| qq1 pm e)) x = bt (ch ||| un) x := fun x hx hne => by
    rw [b_or, bt_q1 (by omega) hx, bt_q1 (by omega) hx, decide_eq_false hne, b_or, Bool.and_false, Bool.and_false, Bool.or_false, Bool.or_false]
  obtain ⟨ce0, ue0, de0⟩ := j11 e (by omega) heD
  have bite : bt ((ch ||| qq1 c e) ||| (un ||| qq1 pm e)) e = (c || pm) := by
    rw [b_or, bt_q1 (by omega) (by omega), bt_q1 (by omega) (by omega), decide_eq_true rfl, ce0, ue0, Bool.and_true, Bool.and_true, Bool.false_or, Bool.false_or]
  have kf : ∀ x, fEq G σ σ' x ∧ lEq T T G (hS T G σ) (hS T G σ') x := fun x => keep_fl s (by decide)
  refine ⟨⟨⟨⟨j1.1.sB s (by decide) (by decide), j1.2.1.sB s (by decide) (by decide), fun z hz => by rw [s.1 77 (by decide)]; exact j1.2.2 z hz⟩, j2.cg (fun f hf => s.1 f (by revert f; decide)), rn, j4.cg (fun f hf => s.1 f (by revert f; decide)) (s.2 70 (by decide))⟩, j5.sB s (by decide) (by decide), j6.cg9 (fun f hf => s.1 f (by revert f; decide)), j7.cg9 (fun f hf => s.1 f (by revert f; decide))⟩, ⟨j8.tr s, fun z hz hm => ?_⟩, fun z hz => ?_, ⟨fun z hz hm => ?_, fun z hz => ?_⟩, fun z hz => ?_, fun z hz hb => ?_, fun z hz w hs hb => ?_, ?_, fun z hz p hp => ?_, fun w z hz => ?_⟩
  · rw [mem'] at hm
    exact (j9 z hz (fun w => hm (Or.inl w))).tr (hy z hz (fun w => hm (Or.inr w)))
  · by_cases c1 : z = e
    · rw [c1]; exact hok
    · have r := (hy z (by omega) c1).req.1
      refine ⟨fun v hv => ?_, fun p hp => ?_⟩
      · have := (j10 z hz).1 v hv
        unfold rPr at this ⊢
        rw [ix0] at this ⊢
        rw [(r.2 v hv).1, (r.2 v hv).2]; exact this
      · rw [r.1 p hp]; exact (j10 z hz).2 p hp
  · rw [mem'] at hm
    have zD : z ∉ D := fun w => hm (Or.inl w)
    have ze : z ≠ e := fun w => hm (Or.inr w)
    obtain ⟨b1, b2', b3⟩ := j11 z hz zD
    rw [bt_q1 (by omega) hz, bt_q1 (by omega) hz, bt_q1 (by omega) hz, decide_eq_false ze, b1, b2', b3]
    simp
  · rw [h48 z hz, j12 z hz, Bool.or_assoc]
    congr 1
    rw [show decide (z ∈ D ++ [e]) = decide (z ∈ D ∨ z = e) from decide_eq_decide.mpr (mem' z)]
    by_cases c1 : z ∈ D
    · rw [decide_eq_true c1, decide_eq_true (Or.inl c1), Bool.true_or]
    · by_cases c2 : z = e
      · rw [decide_eq_true c2, decide_eq_true (Or.inr c2), Bool.or_true]
      · rw [decide_eq_false c1, decide_eq_false c2, decide_eq_false (fun w => w.elim c1 c2)]; rfl
  · rcases (mem' z).mp hz with hzD | rfl
    · obtain ⟨zn, zd, ze⟩ := Dn z hzD
      have e0 : e ≠ 0 := fun w => heD (by rw [w]; exact D_zero hw ho hzD)
      have r0 : σ'.1 43 1 = σ.1 43 1 := (hy 0 (by omega) (fun w => e0 w.symm)).1 1 (by decide)
      have anc : ∀ y, TB T y z = true → rEq σ σ' y ∧ σ'.1 46 y = σ.1 46 y := fun y hyb => by
        have := Dn y (D_anc hw ho hzD hyb)
        exact (hy y (by omega) this.2.2).req
      have par : ∀ y, Tsp T z = some y → rEq σ σ' y := fun y hs => (anc y (TB_sp hw zn hs).1).1
      have own := (hy z (by omega) ze).req
      refine ⟨cons_keep j1.2.1.r40 ⟨(kf z).1, (kf z).2, rfl, hsz_an0 hw zn anc⟩ own.1 par (fun _ => r0) (j13 z hzD).1, size_keep hw hw zn zn j1.2.1.r40 (fun _ => Iff.rfl) (fun x _ => kf x) own.1 own.2 r0 (j13 z hzD).2⟩
    · exact hce
  · rcases (mem' z).mp hz with hzD | rfl
    · obtain ⟨zn, zd, ze⟩ := Dn z hzD
      rw [bits z (by omega) ze] at hb
      have a := j14 z hzD hb
      have b' := (hy z (by omega) ze).req
      exact ⟨a.1.tr b'.1, b'.2.trans a.2⟩
    · rw [bite, Bool.or_eq_false_iff] at hb
      have a := (j9 z (by omega) heD).req
      have b' := hun hb.1 hb.2
      exact ⟨a.1.tr b'.1, b'.2.trans a.2⟩
  · rcases (mem' z).mp hz with hzD | rfl
    · obtain ⟨zn, zd, ze⟩ := Dn z hzD
      have wD := Dn w (D_anc hw ho hzD (TB_sp hw zn hs).1)
      rw [bits w (by omega) wD.2.2] at hb
      rw [bits z (by omega) ze]
      exact j15 z hzD w hs hb
    · have wn := (Tsp_cases hw hs).2.1
      have wz : w ≠ z := (TB_ne hw he (TB_sp hw he hs).1).2
      rw [bits w (by omega) wz] at hb
      rw [bite]
      have : pmv T (ch ||| un) z = bt (ch ||| un) w := by unfold pmv; rw [hs]
      rw [this, hb] at hpm
      rw [← hpm, Bool.or_true]
  · have cn : (D ++ [e]).countP (bt (dn ||| qq1 hd e)) = D.countP (bt dn) + (if hd = true then 1 else 0) := by
      rw [List.countP_append]
      have c1 : D.countP (bt (dn ||| qq1 hd e)) = D.countP (bt dn) := List.countP_congr (fun x hx => by
        obtain ⟨zn, -, ze⟩ := Dn x hx
        rw [bt_q1 (by omega) (by omega), decide_eq_false ze, Bool.and_false, Bool.or_false])
      rw [c1]
      congr 1
      rw [List.countP_cons, List.countP_nil, Nat.zero_add, bt_q1 (by omega) (by omega), decide_eq_true rfl, de0, Bool.and_true, Bool.false_or]
    rw [cn, h52, j16, Int32.add_assoc]
    congr 1
    cases hd with
    | true => rw [if_pos rfl, if_pos rfl, ← nI_add]; rfl
    | false => rw [if_neg (by decide), if_neg (by decide), Nat.add_zero, Int32.add_zero]
  · by_cases c1 : z = e
    · rw [c1]; exact h55 p hp
    · rw [((hy z (by omega) c1).2.2.2.1 p hp).2.1]; exact j17 z hz p hp
  · by_cases c1 : z = e
    · rw [c1]; exact h6 w
    · rw [(hy z (by omega) c1).1 6 (by decide)]; exact j18 w z hz
end QP
