section DEV
variable {T : qqT} {G : qqG} {L : qqL} {A : kA} {ex : Nat → Nat → Prop} {K K' : kS} {S S' : cS} {σ σ' : mS} {v v' nw k : Nat}
theorem var_cases (x : Int32) : (∃ t, t < 3 ∧ x = nI (12 + t)) ∨ ((x < 12 ∨ 15 ≤ x) ∧ ¬ (12 ≤ x ∧ x ≤ 14)) := by
  by_cases h : 12 ≤ x ∧ x ≤ 14
  · left
    obtain ⟨h0, h1⟩ := h
    rw [Int32.le_iff_toInt_le, show (12 : Int32).toInt = 12 by decide] at h0
    rw [Int32.le_iff_toInt_le, show (14 : Int32).toInt = 14 by decide] at h1
    refine ⟨(x.toInt - 12).toNat, by omega, Int32.toInt_inj.mp ?_⟩
    rw [nI_toInt (by omega)]; omega
  · right
    refine ⟨?_, h⟩
    by_cases c : x < 12
    · exact Or.inl c
    · right
      have c' := Int32.not_lt.mp c
      refine Int32.not_lt.mp (fun z => h ⟨c', ?_⟩)
      rw [Int32.lt_iff_toInt_lt, show (15 : Int32).toInt = 15 by decide] at z
      rw [Int32.le_iff_toInt_le, show (14 : Int32).toInt = 14 by decide]; omega
def dvN (a4 a5 : Int32) : Int32 := if (6 : Int32) ≤ a4 then 0 else a5
theorem dv_step (hw : Tw T) (hA : KA A ex K S) (j : J0 T G L ex K σ v) {a p t : Nat} (ha : VR T G a) (hp : p < 15) (ht : t < 3) {a4 a5 : Int32} (h4 : a4 = -1 ∨ ∃ w, w < 7 ∧ a4 = nI w) (im : Bool) (hn : sm a5) : ∃ S0 S' K', rc S (some (bka A a)) 6 = some (bka A a) ∧ f_X6_enter (bka A a) (nI p) 11 (dvN a4 a5) (b2 im) S = some S0 ∧ rc S0 (some (bka A a)) 6 = some (bka A a) ∧ f_X6_enterVariable (bka A a) (nI p) (nI (12 + t)) a4 S0 = some S' ∧ KA A ex K' S' ∧ J0 T G L ex K' (layS σ (16 * a + p) 11 0 (b2 im) (nI (12 + t)) a4 a5) v ∧ kB (rwI a) F3 K K' := by
  obtain ⟨S0, e1, h1⟩ := c_enter hA j ha hp 11 (dvN a4 a5) im
  obtain ⟨r, r2, b⟩ := entK_row K a p 11 (dvN a4 a5) im
  obtain ⟨S', e2, h2⟩ := c_enterVariable (K := K) h1 j rfl ha hp (nI (12 + t)) a4
  obtain ⟨r', x3, x4, x2, b'⟩ := envK_row (nI (12 + t)) a4 r b
  have rc0 : rc S0 (some (bka A a)) 6 = some (bka A a) := by
    have bk := ha.bk j.2.1.1 j.1.1.1 j.2.1.2.1
    exact h1.Rc (bkr a).1 6 bk.1 bk.2
  refine ⟨S0, S', _, bRc hA ha j.2.1.1 j.1.1.1 j.2.1.2.1, e1, rc0, e2, h2, j.lay (u := 11) ha hp (by decide) b' r' ⟨fun h => by omega, fun _ h => by omega, fun _ => ⟨x3, x4, ⟨t, ht, rfl⟩, ?_⟩⟩ ⟨fun h => by omega, fun h => by omega, fun _ => ⟨⟨t, ht, rfl⟩, ?_⟩⟩, b'⟩
  · rcases h4 with h | ⟨w, hw7, rfl⟩
    · exact Or.inl h
    · refine Or.inr ⟨w, hw7, rfl, fun c => ?_, fun c => ?_⟩
      · exact (x2.trans r2).trans (if_neg (show ¬ (6 : Int32) ≤ nI w from nI_ge (b := 6) c (by decide)))
      · exact (x2.trans r2).trans (if_pos (show (6 : Int32) ≤ nI w by rw [c]; decide))
  · rcases h4 with h | ⟨w, hw7, rfl⟩
    · exact Or.inl h
    · exact Or.inr ⟨w, hw7, rfl, fun _ => hn⟩
theorem dv_it {n i l p : Nat} {x0 : Nat} {x1 x3 x4 x5 x6 : Int32} {b : Nat} {S0 : cS} (hp : p < 16) (hl : lsq p = l) (hi : i ≤ l) (h1 : rc S (some b) 6 = some b) (h2 : f_X6_enter b (nI i) 11 (dvN x4 x5) x6 S = some S0) (h3 : rc S0 (some b) 6 = some b) (h4 : f_X6_enterVariable b (nI i) x3 x4 S0 = some S') : f_X11_declareVar_66 x0 (n + 1) x1 (nI p) x3 x4 x5 x6 (some b) (nI i) S = f_X11_declareVar_66 x0 n x1 (nI p) x3 x4 x5 x6 (some b) (nI (i + 1)) S' := by
  have hl15 : l < 16 := by rw [← hl]; unfold lsq; split <;> omega
  rw [f_X11_declareVar_66, c_lastOf hp, qqx, hl, if_neg (fun z => by have := (nI_ltE (by omega) (by omega)).mp z; omega)]
  unfold f_X11_declareVar_94
  unfold dvN at h2
  by_cases c : (6 : Int32) ≤ x4
  · rw [if_pos c] at h2
    rw [if_pos c, h1, qqx, h2, qqx, h3, qqx, h4, qqx, nI_1]
  · rw [if_neg c] at h2
    rw [if_neg c, h1, qqx, h2, qqx, h3, qqx, h4, qqx, nI_1]
theorem dv_end {n i p : Nat} {x1 x3 x4 x5 x6 : Int32} {b : Nat} (hp : p < 16) (hi : i = lsq p + 1) (q9 : rc S (some (A 49 0)) 11 = some (A 49 0)) (m1 : f_X11_markDeclaration (A 49 0) x1 S = some S') (m2 : rc S' (some b) 6 = some b) {val : Int32} (m3 : f_X6_countDeclared b S' = some val) : f_X11_declareVar_66 (A 49 0) (n + 1) x1 (nI p) x3 x4 x5 x6 (some b) (nI i) S = some (.inr val, S') := by
  have hl15 : lsq p < 16 := by unfold lsq; split <;> omega
  rw [f_X11_declareVar_66, c_lastOf hp, qqx, if_pos (show nI (lsq p) < nI i from (nI_ltE (by omega) (by omega)).mpr (by omega)), q9, qqx, m1, qqx, m2, qqx, m3, qqx]
theorem sq_declareVar {T : qqT} {G : qqG} {L : qqL} {A : kA} {ex : Nat → Nat → Prop} {K : kS} {v nw k : Nat} {S : cS} {σ : mS} (w : JW k T G L A ex K v nw S σ) (a1 a2 a3 a4 a5 a6 : Int32) (ha6 : a6 = 0 ∨ a6 = 1) : sJR [2, 0] lvN (JP (pf T G σ (P_rw T G σ a2)) (k + 1)) (f_X11_declareVar 1 a1 a2 a3 a4 a5 a6 S) (f_declareVar a1 a2 a3 a4 a5 a6 σ) := by
  obtain ⟨⟨hw, hA, hin⟩, h49, -, j⟩ := id w
  obtain ⟨im, rfl⟩ := f2_b ha6
  have h30 := hw.n30
  have h40 := j.2.1.1.r40
  have q := j.1.1
  refine at49 (P := fun x => sJR [2, 0] lvN (JP (pf T G σ (P_rw T G σ a2)) (k + 1)) (f_X11_declareVar x a1 a2 a3 a4 a5 (b2 im) S) (f_declareVar a1 a2 a3 a4 a5 (b2 im) σ)) h49 ?_
  unfold f_X11_declareVar f_declareVar
  rw [q.2.1.r11 hA, qqx]
  rcases blk_cases T G h30 h40 a1 with ⟨a, hb⟩ | ⟨n1, n2⟩
  · have ha := hb.vr
    have a70 := ha.lt hw j.2.1.1
    have row0 : (0 : Int32) ≤ nI (16 * a) := nI_pos' (by omega)
    have no : sJR [2, 0] lvN (JP (pf T G σ (P_rw T G σ a2)) (k + 1)) (f_X11_declareVar_52 (A 49 0) a1 a2 a3 a4 a5 (b2 im) (some (bka A a)) S) (f_declareVar_61 a2 a3 a4 a5 (b2 im) (nI (16 * a)) σ) := by
      unfold f_X11_declareVar_52 f_X11_declareVar_57 f_declareVar_61 f_declareVar_62 f_declareVar_84
      rw [c_refA1, qqx, if_pos row0, if_pos rfl, r_holds2, qqx]
      exact sJR.l rfl (w.no 2)
    rw [c_blockY hw j hA hb, qqx, r_rowY hw j hb, qqx, r_in0 a2 (n := 16) (by decide) (by decide), qqx]
    show sJR _ _ _ ((f_X11_isBelow a2 (nI 16)).bind _) _
    rw [c_isBelow, qqx]
    rcases ix_cases a2 (n := 16) (by decide) with ⟨p, hp, rfl⟩ | hx
    · rw [if_dt (nI_inn hp (by decide)), if_dt (nI_inn hp (by decide)), r_in, qqx]
      show sJR _ _ _ (if a3 < (12 : Int32) then _ else (if (15 : Int32) ≤ a3 then _ else _)) _
      rcases var_cases a3 with ⟨t, ht, rfl⟩ | ⟨hx, hy⟩
      · have t1 : ¬ nI (12 + t) < (12 : Int32) := fun z => by have := (nI_ltE (b := 12) (by omega) (by decide)).mp z; omega
        have t2 : ¬ (15 : Int32) ≤ nI (12 + t) := nI_ge (b := 15) (by omega) (by decide)
        have t3 : (12 : Int32) ≤ nI (12 + t) ∧ nI (12 + t) ≤ (14 : Int32) := ⟨(nI_leE (a := 12) (by decide) (by omega)).mpr (by omega), (nI_leE (b := 14) (by omega) (by decide)).mpr (by omega)⟩
        rw [if_neg t1, if_neg t2, if_dt t3, r_inm a4 (n := 7) (by decide) (by decide), qqx]
        have core : (a4 = -1 ∨ ∃ w, w < 7 ∧ a4 = nI w) → sJR [2, 0] lvN (JP (pf T G σ (P_rw T G σ (nI p))) (k + 1)) (f_X11_declareVar_44 (A 49 0) a1 (nI p) (nI (12 + t)) a4 a5 (b2 im) (some (bka A a)) S) ((f_in a5 (-9999) 9999).bind (fun v5 => if v5 = (0:Int32) then (f_declareVar_61 (nI p) (nI (12 + t)) a4 a5 (b2 im) (nI (16 * a)) σ) else (f_declareVar_62 (nI p) (nI (12 + t)) a4 a5 (b2 im) (nI (16 * a)) ((1:Int32)) σ))) := by
          intro h4
          rw [r_in, qqx]
          unfold f_X11_declareVar_44
          rw [c_isNumber, qqx]
          by_cases c : -9999 ≤ a5 ∧ a5 ≤ 9999
          · have hn := sm_of c
            have j0 := j.scR (scR_sf σ 0)
            rw [if_dt c, if_dt c]
            unfold f_X11_declareVar_57 f_declareVar_62 f_declareVar_84
            rw [c_refA0, qqx, if_pos row0, if_neg (show ¬ (1 : Int32) = 0 by decide), r_holds0, qqx, if_pos rfl]
            show sJR _ _ _ ((f_X11_firstOf (nI p)).bind _) _
            rw [c_firstOf hp, qqx]
            unfold f_declareVar_106 f_declareVar_144
            by_cases c : p = 15
            · subst c
              obtain ⟨S0, S1, K1, g1, e1, g1', e1', h1, j1, b1⟩ := dv_step hw hA j0 ha (p := 3) (by decide) ht h4 im hn
              obtain ⟨S0', S2, K2, g2, e2, g2', e2', h2, j2, b2'⟩ := dv_step hw h1 j1 ha (p := 4) (by decide) ht h4 im hn
              obtain ⟨val, S3, σ3, m1, m2, m3, m4, m5⟩ := w.rowEnd hb h2 ((hin.kp b1 (rwI_65 a)).kp b2' (rwI_65 a)) j2 rfl rfl
              rw [if_pos (show nI 15 = 15 from rfl), show (3 : Int32) = nI 3 from rfl, show (4 : Int32) = nI 4 from rfl, nI_add, nI_add, r_lay _ (by omega), qqx, if_pos (show nI 15 = 15 from rfl), r_lay _ (by omega), qqx, m4, qqx]
              rw [show (4000 : Nat) = 3997 + 1 + 1 + 1 from rfl, show fsq 15 = 3 from rfl, dv_it (l := 4) (by decide) rfl (by decide) g1 e1 g1' e1', dv_it (l := 4) (by decide) rfl (by decide) g2 e2 g2' e2', dv_end (p := 15) (i := 4 + 1) (by decide) rfl (j2.1.1.2.1.r11 h2) m1 m2 m3]
              exact m5 (fun val σ' e => PRW2 (σ := σ) ha e) _
            · have fp : fsq p = p := if_neg c
              have lp : lsq p = p := if_neg c
              obtain ⟨S0, S1, K1, g1, e1, g1', e1', h1, j1, b1⟩ := dv_step hw hA j0 ha (p := p) (by omega) ht h4 im hn
              obtain ⟨val, S3, σ3, m1, m2, m3, m4, m5⟩ := w.rowEnd hb h1 (hin.kp b1 (rwI_65 a)) j1 rfl rfl
              have ne : ¬ nI p = 15 := fun z => c ((nI_eqE (b := 15) (by omega) (by decide)).mp z)
              rw [if_neg ne, nI_add, r_lay _ (by omega), qqx, if_neg ne, m4, qqx]
              rw [show (4000 : Nat) = 3998 + 1 + 1 from rfl, fp, dv_it (l := p) hp lp (Nat.le_refl _) g1 e1 g1' e1', dv_end hp (by rw [lp]) (j1.1.1.2.1.r11 h1) m1 m2 m3]
              exact m5 (fun val σ' e => PRW1 (σ := σ) ha hp c e) _
          · rw [if_df c, if_df c]; exact no
        by_cases hm : a4 = -1
        · rw [if_pos hm, decide_eq_true hm, Bool.true_or, if_neg (by decide)]
          exact core (Or.inl hm)
        · rw [if_neg hm, decide_eq_false hm, Bool.false_or]
          show sJR _ _ _ ((f_X11_isBelow a4 (nI 7)).bind _) _
          rw [c_isBelow, qqx]
          rcases ix_cases a4 (n := 7) (by decide) with ⟨w7, hw7, rfl⟩ | hx
          · rw [if_dt (nI_inn hw7 (by decide)), if_dt (nI_inn hw7 (by decide))]
            exact core (Or.inr ⟨w7, hw7, rfl⟩)
          · rw [if_df hx, if_df hx]; exact no
      · rw [if_df hy]
        by_cases c : a3 < 12
        · rw [if_pos c]; exact no
        · rw [if_neg c, if_pos (hx.resolve_left c)]; exact no
    · rw [if_df hx, if_df hx]; exact no
  · have r1 : ∀ y, f_declareVar_62 a2 a3 a4 a5 (b2 im) (-1) y σ = some (-1, sf σ 81 1) := fun y => by
      unfold f_declareVar_62 f_declareVar_84
      rw [if_neg (by decide), r_holds1, qqx]; rfl
    have r2 : f_declareVar_61 a2 a3 a4 a5 (b2 im) (-1) σ = some (-1, sf σ 81 1) := r1 0
    rw [c_blockN hw j hA n1 n2, qqx, r_rowN hw j n1 n2, qqx, r_in, qqx, r_in, qqx, r_in, qqx, r_in, qqx, r1, r2, ite_self, ite_self, ite_self, ite_self]
    exact sJR.l rfl (w.no 1)
end DEV
