section DEC
variable {T : qqT} {G : qqG} {L : qqL} {A : kA} {ex : Nat → Nat → Prop} {K K' : kS} {S S' : cS} {σ σ' : mS} {v v' nw k : Nat}
theorem sm_of {x : Int32} (h : -9999 ≤ x ∧ x ≤ 9999) : sm x := by
  obtain ⟨h1, h2⟩ := h
  rw [Int32.le_iff_toInt_le] at h1 h2
  exact ⟨h1, h2⟩
def fsq (p : Nat) : Nat := if p = 15 then 3 else p
def lsq (p : Nat) : Nat := if p = 15 then 4 else p
theorem fsq_lt {p : Nat} (hp : p < 16) : fsq p < 15 := by unfold fsq; split <;> omega
theorem c_firstOf {p : Nat} (hp : p < 16) : f_X11_firstOf (nI p) = some (nI (fsq p)) := by
  unfold f_X11_firstOf fsq
  by_cases c : p = 15
  · rw [if_pos c, c, if_pos (show nI 15 = 15 from rfl)]; rfl
  · rw [if_neg c, if_neg (show ¬ nI p = 15 from fun z => c ((nI_eqE (b := 15) (by omega) (by decide)).mp z))]; rfl
theorem c_lastOf {p : Nat} (hp : p < 16) : f_X11_lastOf (nI p) = some (nI (lsq p)) := by
  unfold f_X11_lastOf lsq
  by_cases c : p = 15
  · rw [if_pos c, c, if_pos (show nI 15 = 15 from rfl)]; rfl
  · rw [if_neg c, if_neg (show ¬ nI p = 15 from fun z => c ((nI_eqE (b := 15) (by omega) (by decide)).mp z))]; rfl
def sqq (p u : Nat) : Bool := decide (f_suits (nI (fsq p)) (nI u) = some 1)
theorem sqq_both {p u : Nat} (hp : p < 16) (hu : u < 11) : f_suits (nI (fsq p)) (nI u) = some (b2 (sqq p u)) ∧ f_X11_suits (nI (fsq p)) (nI u) = some (b2 (sqq p u)) ∧ (sqq p u = true → u = 4 → fsq p = 1 ∨ fsq p = 2 ∨ 12 ≤ fsq p) := by
  obtain ⟨b, h1, h2, h3⟩ := suits_both (fsq_lt hp) hu
  have : sqq p u = b := by
    unfold sqq
    rw [h1]
    cases b <;> decide
  rw [this]
  exact ⟨h1, h2, h3⟩
theorem r_dec49 {p u : Nat} (hp : p < 16) (hu : u < 11) (x4 x5 row : Int32) (σ : mS) : f_declare_49 (nI p) (nI u) x4 x5 row σ = f_declare_73 (nI p) (nI u) x4 x5 row (b2 (sqq p u)) σ := by
  have key : f_declare_61 (nI p) (nI u) x4 x5 row (nI (fsq p)) σ = f_declare_73 (nI p) (nI u) x4 x5 row (b2 (sqq p u)) σ := by
    unfold f_declare_61 f_declare_72
    rw [(sqq_both hp hu).1, qqx, b2_i0]
    cases sqq p u with
    | true => rw [if_pos rfl]; rfl
    | false => rw [if_neg (by decide)]; rfl
  unfold f_declare_49
  by_cases c : p = 15
  · rw [show fsq p = 3 from if_pos c] at key
    rw [if_pos (show nI p = 15 by rw [c]; rfl)]; exact key
  · rw [show fsq p = p from if_neg c] at key
    rw [if_neg (show ¬ nI p = 15 from fun z => c ((nI_eqE (b := 15) (by omega) (by decide)).mp z))]; exact key
theorem c_dec39 {p u : Nat} (hp : p < 16) (hu : u < 11) (x0 : Nat) (x1 x4 x5 : Int32) (x6 : Option Nat) (S : cS) : f_X11_declare_39 x0 x1 (nI p) (nI u) x4 x5 x6 S = f_X11_declare_55 x0 x1 (nI p) (nI u) x4 x5 x6 (b2 (!sqq p u)) S := by
  unfold f_X11_declare_39 f_X11_declare_50
  rw [c_firstOf hp, qqx, (sqq_both hp hu).2.1, qqx, b2_i0]
  cases sqq p u with
  | true => rw [if_pos rfl]; rfl
  | false => rw [if_neg (by decide)]; rfl
theorem dc_step (hw : Tw T) (hA : KA A ex K S) (j : J0 T G L ex K σ v) {a p u : Nat} (ha : VR T G a) (hp : p < 15) (hu : u < 11) (num : Int32) (im : Bool) (hn : u < 6 → sm num) (h4 : u = 4 → p = 1 ∨ p = 2 ∨ 12 ≤ p) : ∃ S' K', rc S (some (bka A a)) 6 = some (bka A a) ∧ f_X6_enter (bka A a) (nI p) (nI u) (if u < 6 then num else 0) (b2 im) S = some S' ∧ KA A ex K' S' ∧ J0 T G L ex K' (layS σ (16 * a + p) (nI u) num (b2 im) 0 (-1) 0) v ∧ kB (rwI a) F3 K K' := by
  obtain ⟨S', e1, h1⟩ := c_enter hA j ha hp (nI u) (if u < 6 then num else 0) im
  obtain ⟨r, r2, b⟩ := entK_row K a p u (if u < 6 then num else 0) im
  refine ⟨S', _, bRc hA ha j.2.1.1 j.1.1.1 j.2.1.2.1, e1, h1, j.lay ha hp (by omega) b r ⟨fun h => ?_, fun h _ => ?_, fun h => by omega⟩ ⟨hn, h4, fun h => by omega⟩, b⟩
  · rw [r2, if_pos h]
  · rw [r2, if_neg (by omega)]
theorem dc_it {n u i l p : Nat} {x0 : Nat} {x1 num x5 : Int32} {b : Nat} (hp : p < 16) (hl : lsq p = l) (hi : i ≤ l) (hu : u < 11) (h1 : rc S (some b) 6 = some b) (h2 : f_X6_enter b (nI i) (nI u) (if u < 6 then num else 0) x5 S = some S') : f_X11_declare_64 x0 (n + 1) x1 (nI p) (nI u) num x5 (some b) (nI i) S = f_X11_declare_64 x0 n x1 (nI p) (nI u) num x5 (some b) (nI (i + 1)) S' := by
  have hl15 : l < 16 := by rw [← hl]; unfold lsq; split <;> omega
  rw [f_X11_declare_64, c_lastOf hp, qqx, hl, if_neg (fun z => by have := (nI_ltE (by omega) (by omega)).mp z; omega)]
  unfold f_X11_declare_90
  by_cases c : u < 6
  · rw [if_pos c] at h2
    rw [if_neg (show ¬ (6 : Int32) ≤ nI u from nI_ge (b := 6) c (by decide)), h1, qqx, h2, qqx, nI_1]
  · rw [if_neg c] at h2
    rw [if_pos (show (6 : Int32) ≤ nI u from (nI_leE (a := 6) (by decide) (by omega)).mpr (by omega)), h1, qqx, h2, qqx, nI_1]
theorem dc_end {n u i p : Nat} {x1 num x5 : Int32} {b : Nat} (hp : p < 16) (hi : i = lsq p + 1) (q9 : rc S (some (A 49 0)) 11 = some (A 49 0)) (m1 : f_X11_markDeclaration (A 49 0) x1 S = some S') (m2 : rc S' (some b) 6 = some b) {val : Int32} (m3 : f_X6_countDeclared b S' = some val) : f_X11_declare_64 (A 49 0) (n + 1) x1 (nI p) (nI u) num x5 (some b) (nI i) S = some (.inr val, S') := by
  have hl15 : lsq p < 16 := by unfold lsq; split <;> omega
  rw [f_X11_declare_64, c_lastOf hp, qqx, if_pos (show nI (lsq p) < nI i from (nI_ltE (by omega) (by omega)).mpr (by omega)), q9, qqx, m1, qqx, m2, qqx, m3, qqx]
theorem sq_declare {T : qqT} {G : qqG} {L : qqL} {A : kA} {ex : Nat → Nat → Prop} {K : kS} {v nw k : Nat} {S : cS} {σ : mS} (w : JW k T G L A ex K v nw S σ) (a1 a2 a3 a4 a5 : Int32) (ha5 : a5 = 0 ∨ a5 = 1) : sJR [2, 0] lvN (JP (pf T G σ (P_rw T G σ a2)) (k + 1)) (f_X11_declare 1 a1 a2 a3 a4 a5 S) (f_declare a1 a2 a3 a4 a5 σ) := by
  obtain ⟨⟨hw, hA, hin⟩, h49, -, j⟩ := id w
  obtain ⟨im, rfl⟩ := f2_b ha5
  have h30 := hw.n30
  have h40 := j.2.1.1.r40
  have q := j.1.1
  refine at49 (P := fun x => sJR [2, 0] lvN (JP (pf T G σ (P_rw T G σ a2)) (k + 1)) (f_X11_declare x a1 a2 a3 a4 (b2 im) S) (f_declare a1 a2 a3 a4 (b2 im) σ)) h49 ?_
  unfold f_X11_declare f_declare
  rw [q.2.1.r11 hA, qqx]
  rcases blk_cases T G h30 h40 a1 with ⟨a, hb⟩ | ⟨n1, n2⟩
  · have ha := hb.vr
    have a70 := ha.lt hw j.2.1.1
    have row0 : (0 : Int32) ≤ nI (16 * a) := nI_pos' (by omega)
    have no : sJR [2, 0] lvN (JP (pf T G σ (P_rw T G σ a2)) (k + 1)) (f_X11_declare_50 (A 49 0) a1 a2 a3 a4 (b2 im) (some (bka A a)) S) (f_declare_72 a2 a3 a4 (b2 im) (nI (16 * a)) σ) := by
      unfold f_X11_declare_50 f_X11_declare_55 f_declare_72 f_declare_73 f_declare_95
      rw [c_refA1, qqx, if_pos row0, if_pos rfl, r_holds2, qqx]
      exact sJR.l rfl (w.no 2)
    rw [c_blockY hw j hA hb, qqx, r_rowY hw j hb, qqx, r_in0 a2 (n := 16) (by decide) (by decide), qqx]
    show sJR _ _ _ ((f_X11_isBelow a2 (nI 16)).bind _) _
    rw [c_isBelow, qqx]
    rcases ix_cases a2 (n := 16) (by decide) with ⟨p, hp, rfl⟩ | hx
    · rw [if_dt (nI_inn hp (by decide)), if_dt (nI_inn hp (by decide)), r_in0 a3 (n := 11) (by decide) (by decide), qqx]
      show sJR _ _ _ ((f_X11_isBelow a3 (nI 11)).bind _) _
      rw [c_isBelow, qqx]
      rcases ix_cases a3 (n := 11) (by decide) with ⟨u, hu, rfl⟩ | hx
      · rw [if_dt (nI_inn hu (by decide)), if_dt (nI_inn hu (by decide))]
        have core : (u < 6 → sm a4) → sJR [2, 0] lvN (JP (pf T G σ (P_rw T G σ (nI p))) (k + 1)) (f_X11_declare_39 (A 49 0) a1 (nI p) (nI u) a4 (b2 im) (some (bka A a)) S) (f_declare_49 (nI p) (nI u) a4 (b2 im) (nI (16 * a)) σ) := by
          intro hn
          rw [r_dec49 hp hu, c_dec39 hp hu]
          obtain ⟨-, -, h4⟩ := sqq_both hp hu
          cases hs : sqq p u with
          | false => exact no
          | true =>
            have h4 := h4 hs
            have j0 := j.scR (scR_sf σ 0)
            unfold f_X11_declare_55 f_declare_73 f_declare_95
            rw [show b2 (!true) = 0 from rfl, c_refA0, qqx, if_pos row0, if_neg (show ¬ b2 true = 0 by decide), r_holds0, qqx, if_pos rfl]
            show sJR _ _ _ ((f_X11_firstOf (nI p)).bind _) _
            rw [c_firstOf hp, qqx]
            unfold f_declare_117 f_declare_151
            by_cases c : p = 15
            · subst c
              obtain ⟨S1, K1, g1, e1, h1, j1, b1⟩ := dc_step hw hA j0 ha (p := 3) (u := u) (by decide) hu a4 im hn h4
              obtain ⟨S2, K2, g2, e2, h2, j2, b2'⟩ := dc_step hw h1 j1 ha (p := 4) (u := u) (by decide) hu a4 im hn (fun z => by have := h4 z; rw [show fsq 15 = 3 from rfl] at this; omega)
              obtain ⟨val, S3, σ3, m1, m2, m3, m4, m5⟩ := w.rowEnd hb h2 ((hin.kp b1 (rwI_65 a)).kp b2' (rwI_65 a)) j2 rfl rfl
              rw [if_pos (show nI 15 = 15 from rfl), show (3 : Int32) = nI 3 from rfl, show (4 : Int32) = nI 4 from rfl, nI_add, nI_add, r_lay _ (by omega), qqx, if_pos (show nI 15 = 15 from rfl), r_lay _ (by omega), qqx, m4, qqx]
              rw [show (4000 : Nat) = 3997 + 1 + 1 + 1 from rfl, show fsq 15 = 3 from rfl, dc_it (l := 4) (by decide) rfl (by decide) hu g1 e1, dc_it (l := 4) (by decide) rfl (by decide) hu g2 e2, dc_end (p := 15) (i := 4 + 1) (by decide) rfl (j2.1.1.2.1.r11 h2) m1 m2 m3]
              exact m5 (fun val σ' e => PRW2 (σ := σ) ha e) _
            · have fp : fsq p = p := if_neg c
              have lp : lsq p = p := if_neg c
              rw [fp] at h4
              obtain ⟨S1, K1, g1, e1, h1, j1, b1⟩ := dc_step hw hA j0 ha (p := p) (u := u) (by omega) hu a4 im hn h4
              obtain ⟨val, S3, σ3, m1, m2, m3, m4, m5⟩ := w.rowEnd hb h1 (hin.kp b1 (rwI_65 a)) j1 rfl rfl
              have ne : ¬ nI p = 15 := fun z => c ((nI_eqE (b := 15) (by omega) (by decide)).mp z)
              rw [if_neg ne, nI_add, r_lay _ (by omega), qqx, if_neg ne, m4, qqx]
              rw [show (4000 : Nat) = 3998 + 1 + 1 from rfl, fp, dc_it (l := p) hp lp (Nat.le_refl _) hu g1 e1, dc_end hp (by rw [lp]) (j1.1.1.2.1.r11 h1) m1 m2 m3]
              exact m5 (fun val σ' e => PRW1 (σ := σ) ha hp c e) _
        by_cases c6 : u < 6
        · rw [if_neg (show ¬ (5 : Int32) < nI u from fun z => by have := (nI_ltE (a := 5) (by decide) (by omega)).mp z; omega), r_in, qqx]
          show sJR _ _ _ (if (6 : Int32) ≤ nI u then _ else _) _
          rw [if_neg (show ¬ (6 : Int32) ≤ nI u from nI_ge (b := 6) c6 (by decide)), c_isNumber, qqx]
          by_cases c : -9999 ≤ a4 ∧ a4 ≤ 9999
          · rw [if_dt c, if_dt c]; exact core (fun _ => sm_of c)
          · rw [if_df c, if_df c]; exact no
        · rw [if_pos (show (5 : Int32) < nI u from (nI_ltE (a := 5) (by decide) (by omega)).mpr (by omega))]
          show sJR _ _ _ (if (6 : Int32) ≤ nI u then _ else _) _
          rw [if_pos (show (6 : Int32) ≤ nI u from (nI_leE (a := 6) (by decide) (by omega)).mpr (by omega))]
          exact core (fun z => absurd z c6)
      · rw [if_df hx, if_df hx]; exact no
    · rw [if_df hx, if_df hx]; exact no
  · have r1 : ∀ y, f_declare_73 a2 a3 a4 (b2 im) (-1) y σ = some (-1, sf σ 81 1) := fun y => by
      unfold f_declare_73 f_declare_95
      rw [if_neg (by decide), r_holds1, qqx]; rfl
    have fin : sJR [2, 0] lvN (JP (pf T G σ (P_rw T G σ a2)) (k + 1)) (some (.inl 2, S)) (some (-1, sf σ 81 1)) := sJR.l rfl (w.no 1)
    rw [c_blockN hw j hA n1 n2, qqx, r_rowN hw j n1 n2, qqx, r_in0 a2 (n := 16) (by decide) (by decide), qqx]
    have r2 : f_declare_72 a2 a3 a4 (b2 im) (-1) σ = some (-1, sf σ 81 1) := r1 0
    rcases ix_cases a2 (n := 16) (by decide) with ⟨p, hp, rfl⟩ | hx
    · rw [if_dt (nI_inn hp (by decide)), r_in0 a3 (n := 11) (by decide) (by decide), qqx]
      rcases ix_cases a3 (n := 11) (by decide) with ⟨u, hu, rfl⟩ | hx
      · rw [if_dt (nI_inn hu (by decide)), r_dec49 hp hu, r1, r2]
        by_cases c6 : (5 : Int32) < nI u
        · rw [if_pos c6]; exact fin
        · rw [if_neg c6, r_in, qqx, ite_self]; exact fin
      · rw [if_df hx, r2]; exact fin
    · rw [if_df hx, r2]; exact fin
end DEC
