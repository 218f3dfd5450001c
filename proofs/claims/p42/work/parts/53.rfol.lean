section RF
variable {T : qqT} {G : qqG} {σ : mS}
def vOK (σ : mS) (R : Nat → Option Nat) : Prop := ∀ v, v < 3 → ∀ a, R (12 + v) = some a → rOK σ (12 + v) a ∧ a < 70
theorem vMk_bt (σ : mS) (R : Nat → Option Nat) {w : Nat} (hw : w < 3) : bt (vMk σ R 3) w = vNd σ w (R (12 + w)) := by
  unfold vMk
  rw [qqM_bt _ 3 (by decide) w (by omega), decide_eq_true hw, Bool.true_and]
theorem r_maskbit (σ : mS) (R : Nat → Option Nat) {w : Nat} (hw : w < 3) : f_bit (vMk σ R 3) (nI w) = some (b2 (vNd σ w (R (12 + w)))) := by rw [r_bit _ (by omega), vMk_bt σ R hw]
theorem r_aim (hw : Tw T) (rs : RS T G σ) {σ' : mS} {into ar e w : Nat} (b : rW into e σ σ') (har : ar < 3) (he : e < Tn T) (h3 : w < 3) (tr : Bool) (hok : vOK σ (rI T G σ ar e tr).1) (hn : vNd σ w ((rI T G σ ar e tr).1 (12 + w)) = true) : f_aim (nI e) (nI w) (nI ar) (b2 tr) σ' = some (nI (vAm σ w ((rI T G σ ar e tr).1 (12 + w)))) ∧ vAm σ w ((rI T G σ ar e tr).1 (12 + w)) < 3 := by
  unfold f_aim
  rw [show (12 : Int32) = nI 12 from rfl, nI_add, r_foundW hw rs b har he (by omega) tr, qqx]
  cases hR : (rI T G σ ar e tr).1 (12 + w) with
  | none => rw [hR] at hn; exact absurd (show false = true from hn) (by decide)
  | some a =>
    rw [hR] at hn
    obtain ⟨h1, h2⟩ := hok w h3 a hR
    have h4 := vAm_lt h1 hn
    show ((rd σ' 40 (nI (16 * a + (12 + w)))).bind _) = _ ∧ _
    rw [rd_40 (by omega), qqx, b.o (f := 40), h4.2, pk_sub (by omega), show 12 + vAm σ w (some a) - 12 = vAm σ w (some a) by omega]
    exact ⟨rfl, h4.1⟩
theorem r_onRing_6 (hw : Tw T) (rs : RS T G σ) {σ' : mS} {into ar e v : Nat} (b : rW into e σ σ') (har : ar < 3) (he : e < Tn T) (hv : v < 3) (tr : Bool) (hok : vOK σ (rI T G σ ar e tr).1) {P : Option (Nat → qP)} : ∀ d m k w, k + d = 3 → d < m → w < 3 → f_onRing_6 m (nI e) (nI v) (vMk σ (rI T G σ ar e tr).1 3) (nI ar) (b2 tr) (nI w) (nI k) σ' = some (b2 (sRg (vK3 σ P (rI T G σ ar e tr).1) v d w)) := by
  intro d
  induction d with
  | zero =>
    intro m k w hk hm h3
    obtain ⟨m, rfl⟩ : ∃ m', m = m' + 1 := ⟨m - 1, by omega⟩
    have hk : k = 3 := by omega
    subst hk
    rw [f_onRing_6, if_pos (by decide)]
    rfl
  | succ d ih =>
    intro m k w hk hm h3
    obtain ⟨m, rfl⟩ : ∃ m', m = m' + 1 := ⟨m - 1, by omega⟩
    rw [f_onRing_6, if_neg (ge3 (by omega)), r_maskbit σ _ h3, qqx, b2_i0]
    unfold sRg
    rw [vK3_g σ P _ w h3]
    cases hn : vNd σ w ((rI T G σ ar e tr).1 (12 + w)) with
    | false =>
      rw [if_neg (by decide), (vKn_n (P := P) hn).1]
      rfl
    | true =>
      have ha := r_aim hw rs b har he h3 tr hok hn
      rw [if_pos rfl, ha.1, qqx, (vKn_y (P := P) hn).1, nI_1]
      by_cases c : vAm σ w ((rI T G σ ar e tr).1 (12 + w)) = v
      · rw [if_pos (by rw [c])]
        show _ = some (b2 (if vAm σ w ((rI T G σ ar e tr).1 (12 + w)) = v then true else _))
        rw [if_pos c]
        rfl
      · rw [if_neg (by rw [nI_eqE (by omega) (by omega)]; exact c)]
        show _ = some (b2 (if vAm σ w ((rI T G σ ar e tr).1 (12 + w)) = v then true else _))
        rw [if_neg c]
        exact ih m (k + 1) _ (by omega) (by omega) ha.2
def scC (R : Nat → Option Nat) (s : Option Nat) : Int32 := match s with
  | none => -1
  | some w => rwc (12 + w) (R (12 + w))
def scO (σ : mS) (R : Nat → Option Nat) (s : Option Nat) : Prop := ∀ w, s = some w → w < 3 ∧ vNd σ w (R (12 + w)) = true ∧ vSe σ w (R (12 + w)) = true
theorem r_follow_26 (hw : Tw T) (rs : RS T G σ) {σ' : mS} {into ar e v at0 : Nat} (b : rW into e σ σ') (har : ar < 3) (he : e < Tn T) (hv : v < 3) (tr : Bool) (hok : vOK σ (rI T G σ ar e tr).1) {P : Option (Nat → qP)} : ∀ d m k w l s r, k + d = 3 → d < m → w < 3 → l < 3 → scO σ (rI T G σ ar e tr).1 s → f_follow_26 m (nI e) (nI v) (vMk σ (rI T G σ ar e tr).1 3) (nI ar) (b2 tr) (nI at0) (nI l) (scC (rI T G σ ar e tr).1 s) (b2 r) (nI w) (nI k) σ' = f_follow_128 (nI v) (vMk σ (rI T G σ ar e tr).1 3) (nI at0) (nI (sFl (vK3 σ P (rI T G σ ar e tr).1) d w l s r).1) (scC (rI T G σ ar e tr).1 (sFl (vK3 σ P (rI T G σ ar e tr).1) d w l s r).2.1) (b2 (sFl (vK3 σ P (rI T G σ ar e tr).1) d w l s r).2.2) σ' ∧ (sFl (vK3 σ P (rI T G σ ar e tr).1) d w l s r).1 < 3 ∧ scO σ (rI T G σ ar e tr).1 (sFl (vK3 σ P (rI T G σ ar e tr).1) d w l s r).2.1 := by
  intro d
  induction d with
  | zero =>
    intro m k w l s r hk hm h3 hl hs
    obtain ⟨m, rfl⟩ : ∃ m', m = m' + 1 := ⟨m - 1, by omega⟩
    have hk : k = 3 := by omega
    subst hk
    rw [f_follow_26, if_pos (by decide)]
    exact ⟨rfl, hl, hs⟩
  | succ d ih =>
    intro m k w l s r hk hm h3 hl hs
    obtain ⟨m, rfl⟩ : ∃ m', m = m' + 1 := ⟨m - 1, by omega⟩
    rw [f_follow_26, if_neg (ge3 (by omega)), r_maskbit σ _ h3, qqx, b2_i0]
    cases hn : vNd σ w ((rI T G σ ar e tr).1 (12 + w)) with
    | false =>
      rw [if_neg (by decide), sFl_n (c := vK3 σ P (rI T G σ ar e tr).1) (w := w) (by rw [vK3_g σ P _ w h3]; exact (vKn_n (P := P) hn).1)]
      exact ⟨rfl, hl, hs⟩
    | true =>
      have ha := r_aim hw rs b har he h3 tr hok hn
      have hG : sG (g3 (vK3 σ P (rI T G σ ar e tr).1) w) = some (vAm σ w ((rI T G σ ar e tr).1 (12 + w))) := by rw [vK3_g σ P _ w h3]; exact (vKn_y (P := P) hn).1
      have hG2 : decide (g3 (vK3 σ P (rI T G σ ar e tr).1) w % 2 = 1) = vSe σ w ((rI T G σ ar e tr).1 (12 + w)) := by rw [vK3_g σ P _ w h3]; exact (vKn_y (P := P) hn).2.1
      rw [if_pos rfl, b2_i0]
      cases r with
      | true =>
        rw [if_pos rfl, sFl_t hG]
        exact ⟨rfl, hl, hs⟩
      | false =>
        rw [if_neg (by decide), show (12 : Int32) = nI 12 from rfl, nI_add, r_foundW hw rs b har he (by omega) tr, qqx]
        unfold f_onRing
        rw [show (0 : Int32) = nI 0 from rfl, r_onRing_6 hw rs b har he h3 tr hok (P := P) 3 4000 0 w rfl (by decide) h3, qqx, b2_i0']
        have key : ∀ s', scO σ (rI T G σ ar e tr).1 s' → f_follow_99 (f_follow_26 m) (nI e) (nI v) (vMk σ (rI T G σ ar e tr).1 3) (nI ar) (b2 tr) (nI at0) (nI w) (nI k) (b2 (sRg (vK3 σ P (rI T G σ ar e tr).1) w 3 w)) (scC (rI T G σ ar e tr).1 s') σ' = f_follow_128 (nI v) (vMk σ (rI T G σ ar e tr).1 3) (nI at0) (nI (sFl (vK3 σ P (rI T G σ ar e tr).1) d (vAm σ w ((rI T G σ ar e tr).1 (12 + w))) (vAm σ w ((rI T G σ ar e tr).1 (12 + w))) s' (sRg (vK3 σ P (rI T G σ ar e tr).1) w 3 w)).1) (scC (rI T G σ ar e tr).1 (sFl (vK3 σ P (rI T G σ ar e tr).1) d (vAm σ w ((rI T G σ ar e tr).1 (12 + w))) (vAm σ w ((rI T G σ ar e tr).1 (12 + w))) s' (sRg (vK3 σ P (rI T G σ ar e tr).1) w 3 w)).2.1) (b2 (sFl (vK3 σ P (rI T G σ ar e tr).1) d (vAm σ w ((rI T G σ ar e tr).1 (12 + w))) (vAm σ w ((rI T G σ ar e tr).1 (12 + w))) s' (sRg (vK3 σ P (rI T G σ ar e tr).1) w 3 w)).2.2) σ' ∧ (sFl (vK3 σ P (rI T G σ ar e tr).1) d (vAm σ w ((rI T G σ ar e tr).1 (12 + w))) (vAm σ w ((rI T G σ ar e tr).1 (12 + w))) s' (sRg (vK3 σ P (rI T G σ ar e tr).1) w 3 w)).1 < 3 ∧ scO σ (rI T G σ ar e tr).1 (sFl (vK3 σ P (rI T G σ ar e tr).1) d (vAm σ w ((rI T G σ ar e tr).1 (12 + w))) (vAm σ w ((rI T G σ ar e tr).1 (12 + w))) s' (sRg (vK3 σ P (rI T G σ ar e tr).1) w 3 w)).2.1 := by
          intro s' hs'
          unfold f_follow_99
          rw [ha.1, qqx, nI_1]
          exact ih m (k + 1) _ _ s' _ (by omega) (by omega) ha.2 ha.2 hs'
        rw [sFl_f hG, hG2]
        cases hrg : sRg (vK3 σ P (rI T G σ ar e tr).1) w 3 w with
        | true =>
          rw [hrg] at key
          rw [if_pos rfl]
          unfold f_follow_97
          exact key s hs
        | false =>
          rw [hrg] at key
          rw [if_neg (by decide)]
          cases hR : (rI T G σ ar e tr).1 (12 + w) with
          | none => rw [hR] at hn; exact absurd (show false = true from hn) (by decide)
          | some a =>
            have h70 := (hok w h3 a hR).2
            have e41 : rd σ' 41 (rwc (12 + w) (some a)) = some (σ.1 41 (16 * a + (12 + w))) := by
              show rd σ' 41 (nI (16 * a + (12 + w))) = _
              rw [rd_41 (by omega), b.o (f := 41)]
            rw [hR] at key
            rw [e41, qqx]
            by_cases c : σ.1 41 (16 * a + (12 + w)) < nI 0
            · have hse : vSe σ w (some a) = false := decide_eq_false (Int32.not_le.mpr c)
              rw [if_pos c, hse]
              unfold f_follow_97
              exact key s hs
            · have hse : vSe σ w (some a) = true := decide_eq_true (Int32.not_lt.mp c)
              rw [if_neg c, hse]
              have e9 : scC (rI T G σ ar e tr).1 (some w) = rwc (12 + w) (some a) := by
                show rwc (12 + w) ((rI T G σ ar e tr).1 (12 + w)) = _
                rw [hR]
              have := key (some w) (fun x hx => by
                cases hx
                rw [hR]
                exact ⟨h3, by rw [hR] at hn; exact hn, hse⟩)
              rw [e9] at this
              exact this
theorem scC_lt {R : Nat → Option Nat} {s : Option Nat} (hok : vOK σ R) (h : scO σ R s) : (s = none ∧ scC R s = -1) ∨ ∃ w a, s = some w ∧ w < 3 ∧ R (12 + w) = some a ∧ a < 70 ∧ scC R s = nI (16 * a + (12 + w)) ∧ ¬ scC R s < 0 ∧ 0 ≤ σ.1 41 (16 * a + (12 + w)) := by
  cases s with
  | none => exact Or.inl ⟨rfl, rfl⟩
  | some w =>
    obtain ⟨h1, h2, h3⟩ := h w rfl
    cases hR : R (12 + w) with
    | none => rw [hR] at h2; exact absurd (show false = true from h2) (by decide)
    | some a =>
      have h4 := (hok w h1 a hR).2
      have e : scC R (some w) = nI (16 * a + (12 + w)) := by
        show rwc (12 + w) (R (12 + w)) = _
        rw [hR]
        rfl
      rw [hR] at h3
      exact Or.inr ⟨w, a, rfl, h1, hR, h4, e, by rw [e]; exact nI_pos (by omega), of_decide_eq_true h3⟩
theorem r_follow_end {σ' : mS} {into e v at0 : Nat} (b : rW into e σ σ') (h0 : at0 + 3 ≤ 270) (hv : v < 3) {P : Option (Nat → qP)} {R : Nat → Option Nat} (hok : vOK σ R) {l : Nat} {s : Option Nat} {r : Bool} (hl : l < 3) (hs : scO σ R s) (hb : vNd σ l (R (12 + l)) = false → σ'.1 44 (at0 + l) = (vBa σ P l (R (12 + l))).1 ∧ σ'.1 45 (at0 + l) = (vBa σ P l (R (12 + l))).2) : f_follow_128 (nI v) (vMk σ R 3) (nI at0) (nI l) (scC R s) (b2 r) σ' = some (up (up σ' 44 (at0 + v) (vSy σ P R (sFe (vK3 σ P R) (l, s, r))).1) 45 (at0 + v) (vSy σ P R (sFe (vK3 σ P R) (l, s, r))).2) := by
  have bad : (!r && decide (g3 (vK3 σ P R) l = 1)) = false → f_follow_160 (nI v) (nI at0) (nI l) (scC R s) σ' = some (up (up σ' 44 (at0 + v) (vSy σ P R (sFe (vK3 σ P R) (l, s, r))).1) 45 (at0 + v) (vSy σ P R (sFe (vK3 σ P R) (l, s, r))).2) := by
    intro hg
    have e1 : sFe (vK3 σ P R) (l, s, r) = sFs s := if_neg (show ¬ (!r && decide (g3 (vK3 σ P R) l = 1)) = true by rw [hg]; decide)
    rw [e1]
    unfold f_follow_160 f_follow_161
    rw [if_pos rfl]
    rcases scC_lt hok hs with ⟨rfl, h2⟩ | ⟨w, a, rfl, h1, h2, h3, h4, h5, h6⟩
    · rw [h2, if_neg (by decide)]
      unfold f_follow_205
      rw [nI_add, wr_44 (by omega), qqx, if_pos rfl, if_pos (by decide)]
      unfold f_follow_249 f_follow_260
      rw [wr_45 (by omega), qqx]
      rfl
    · rw [if_pos (Int32.not_lt.mp h5), h4, rd_41 (by omega), qqx, b.o (f := 41)]
      unfold f_follow_205
      rw [nI_add, wr_44 (by omega), qqx, if_pos rfl, ← h4, if_neg h5, h4, rd_41 (by omega), qqx, up_o (by decide), b.o (f := 41)]
      have e2 : vSy σ P R (3 + w) = (σ.1 41 (16 * a + (12 + w)), if σ.1 41 (16 * a + (12 + w)) = 6 then 0 else σ.1 42 (16 * a + (12 + w))) := by
        unfold vSy
        rw [if_neg (by omega), if_pos (by omega), show 3 + w - 3 = w by omega, h2]
        rfl
      show _ = some (up (up σ' 44 (at0 + v) (vSy σ P R (3 + w)).1) 45 (at0 + v) (vSy σ P R (3 + w)).2)
      rw [e2]
      by_cases c : σ.1 41 (16 * a + (12 + w)) = 6
      · rw [if_pos c, if_pos c]
        unfold f_follow_249 f_follow_260
        rw [wr_45 (by omega), qqx]
      · rw [if_neg c, if_neg c, rd_42 (by omega), qqx, up_o (by decide), b.o (f := 42)]
        unfold f_follow_260
        rw [wr_45 (by omega), qqx]
  unfold f_follow_128
  rw [b2_i0]
  cases r with
  | true => rw [if_pos rfl]; exact bad rfl
  | false =>
    rw [if_neg (by decide), r_maskbit σ R hl, qqx, b2_i0]
    cases hn : vNd σ l (R (12 + l)) with
    | true =>
      rw [if_pos rfl]
      refine bad ?_
      rw [vK3_g σ P R l hl, decide_eq_false (vKn_y (P := P) hn).2.2]
      rfl
    | false =>
      obtain ⟨hb1, hb2⟩ := hb hn
      rw [if_neg (by decide), nI_add, rd_44 (by omega), qqx, hb1]
      by_cases c : (vBa σ P l (R (12 + l))).1 < 0
      · rw [if_pos c]
        refine bad ?_
        rw [vK3_g σ P R l hl, decide_eq_false (fun z => by rw [(vKn_n (P := P) hn).2] at z; exact Int32.not_le.mpr c z)]
        rfl
      · rw [if_neg c]
        have hg : decide (g3 (vK3 σ P R) l = 1) = true := decide_eq_true (by rw [vK3_g σ P R l hl, (vKn_n (P := P) hn).2]; exact Int32.not_lt.mp c)
        have e1 : sFe (vK3 σ P R) (l, s, false) = l := if_pos (by show (!false && decide (g3 (vK3 σ P R) l = 1)) = true; rw [hg]; rfl)
        rw [e1]
        have e2 : vSy σ P R l = vBa σ P l (R (12 + l)) := if_pos hl
        rw [e2]
        unfold f_follow_161
        rw [if_neg (by decide), nI_add, rd_44 (by omega), qqx, hb1]
        unfold f_follow_205
        rw [nI_add, wr_44 (by omega), qqx, if_neg (by decide), nI_add, rd_45 (by omega), qqx, up_o (by decide), hb2]
        unfold f_follow_260
        rw [wr_45 (by omega), qqx]
theorem r_follow (hw : Tw T) (rs : RS T G σ) {σ' : mS} {into ar e v : Nat} (b : rW into e σ σ') (har : ar < 3) (hin : into < 3) (he : e < Tn T) (hv : v < 3) (tr : Bool) (hok : vOK σ (rI T G σ ar e tr).1) (hn : vNd σ v ((rI T G σ ar e tr).1 (12 + v)) = true) (hb : ∀ l, l < 3 → vNd σ l ((rI T G σ ar e tr).1 (12 + l)) = false → σ'.1 44 (3 * (30 * into + e) + l) = (vBa σ (qiV (rI T G σ ar e tr)) l ((rI T G σ ar e tr).1 (12 + l))).1 ∧ σ'.1 45 (3 * (30 * into + e) + l) = (vBa σ (qiV (rI T G σ ar e tr)) l ((rI T G σ ar e tr).1 (12 + l))).2) : f_follow (nI e) (nI v) (vMk σ (rI T G σ ar e tr).1 3) (nI ar) (nI into) (b2 tr) σ' = some (up (up σ' 44 (3 * (30 * into + e) + v) (qVr σ (rI T G σ ar e tr) v).1) 45 (3 * (30 * into + e) + v) (qVr σ (rI T G σ ar e tr) v).2) := by
  have h30 := hw.n30
  unfold f_follow
  rw [ix3]
  have h1 := r_follow_26 (at0 := 3 * (30 * into + e)) hw rs b har he hv tr hok (P := qiV (rI T G σ ar e tr)) 3 4000 0 v v none false rfl (by decide) hv hv (fun w hw => by cases hw)
  have h2 := h1.1
  rw [show (0 : Int32) = nI 0 from rfl]
  rw [show scC (rI T G σ ar e tr).1 none = -1 from rfl, show b2 false = nI 0 from rfl] at h2
  rw [h2, r_follow_end (P := qiV (rI T G σ ar e tr)) b (by omega) hv hok h1.2.1 h1.2.2 (hb _ h1.2.1)]
  have e3 : qVr σ (rI T G σ ar e tr) v = vSy σ (qiV (rI T G σ ar e tr)) (rI T G σ ar e tr).1 (sFe (vK3 σ (qiV (rI T G σ ar e tr)) (rI T G σ ar e tr).1) (sFl (vK3 σ (qiV (rI T G σ ar e tr)) (rI T G σ ar e tr).1) 3 v v none false)) := by
    unfold qVr qVar sRf
    rw [vK3_g σ _ _ v hv, (vKn_y (P := qiV (rI T G σ ar e tr)) hn).1]
  rw [e3]
theorem r_variables_259 (hw : Tw T) (rs : RS T G σ) {into ar e : Nat} (har : ar < 3) (hin : into < 3) (he : e < Tn T) (tr : Bool) (hok : vOK σ (rI T G σ ar e tr).1) (hP : ∀ f, qiV (rI T G σ ar e tr) = some f → ∀ v, v < 3 → okP (f v)) : ∀ d m v σ1, v + d = 3 → d < m → rW into e σ σ1 → vrW σ1 (3 * (30 * into + e)) 3 (fun w => if w < v then qVr σ (rI T G σ ar e tr) w else vBa σ (qiV (rI T G σ ar e tr)) w ((rI T G σ ar e tr).1 (12 + w))) → ∃ σ2, f_variables_259 m (nI e) (nI ar) (nI into) (b2 tr) (vMk σ (rI T G σ ar e tr).1 3) (nI v) σ1 = some σ2 ∧ rW into e σ σ2 ∧ vrW σ2 (3 * (30 * into + e)) 3 (qVr σ (rI T G σ ar e tr)) := by
  intro d
  induction d with
  | zero =>
    intro m v σ1 hv hm b h
    obtain ⟨m, rfl⟩ : ∃ m', m = m' + 1 := ⟨m - 1, by omega⟩
    have hv : v = 3 := by omega
    subst hv
    rw [f_variables_259, if_pos (by decide)]
    refine ⟨σ1, rfl, b, fun w hw3 => ?_⟩
    have := h w hw3
    simp only [if_pos hw3] at this
    exact this
  | succ d ih =>
    intro m v σ1 hv hm b h
    obtain ⟨m, rfl⟩ : ∃ m', m = m' + 1 := ⟨m - 1, by omega⟩
    have hv3 : v < 3 := by omega
    have own : ∀ w, w < 3 → vNd σ w ((rI T G σ ar e tr).1 (12 + w)) = false → qVr σ (rI T G σ ar e tr) w = vBa σ (qiV (rI T G σ ar e tr)) w ((rI T G σ ar e tr).1 (12 + w)) := fun w hw3 hn => qVar_own hw3 (fun a ha => (hok w hw3 a ha).1) (fun f hf => hP f hf w hw3) hn
    rw [f_variables_259, if_neg (ge3 hv3), r_maskbit σ _ hv3, qqx, b2_i0]
    unfold f_variables_289
    rw [nI_1]
    cases hn : vNd σ v ((rI T G σ ar e tr).1 (12 + v)) with
    | false =>
      rw [if_neg (by decide)]
      refine ih m (v + 1) σ1 (by omega) (by omega) b (fun w hw3 => ?_)
      have h1 := h w hw3
      by_cases c : w = v
      · subst c
        simp only [if_neg (Nat.lt_irrefl w)] at h1
        simp only [if_pos (Nat.lt_succ_self w)]
        rw [own w hw3 hn]
        exact h1
      · by_cases c2 : w < v
        · simp only [if_pos c2] at h1
          simp only [if_pos (Nat.lt_succ_of_lt c2)]
          exact h1
        · simp only [if_neg c2] at h1
          simp only [if_neg (show ¬ w < v + 1 by omega)]
          exact h1
    | true =>
      rw [if_pos rfl, r_follow hw rs b har hin he hv3 tr hok hn (fun l hl hnl => by
        have h1 := h l hl
        by_cases c2 : l < v
        · simp only [if_pos c2, own l hl hnl] at h1
          exact h1
        · simp only [if_neg c2] at h1
          exact h1), qqx]
      refine ih m (v + 1) _ (by omega) (by omega) ((b.w44 (by omega)).w45 (by omega)) (fun w hw3 => ?_)
      have h1 := h w hw3
      by_cases c : w = v
      · subst c
        simp only [if_pos (Nat.lt_succ_self w)]
        rw [up_o (by decide), up_ss, up_ss]
        exact ⟨rfl, rfl⟩
      · rw [up_o (by decide), up_sn (by omega), up_sn (by omega), up_o (by decide)]
        by_cases c2 : w < v
        · simp only [if_pos c2] at h1
          simp only [if_pos (Nat.lt_succ_of_lt c2)]
          exact h1
        · simp only [if_neg c2] at h1
          simp only [if_neg (show ¬ w < v + 1 by omega)]
          exact h1
theorem r_variables (hw : Tw T) (rs : RS T G σ) {into ar e : Nat} (har : ar < 3) (hin : into < 3) (he : e < Tn T) (tr : Bool) (hok : vOK σ (rI T G σ ar e tr).1) (hP : ∀ f, qiV (rI T G σ ar e tr) = some f → ∀ v, v < 3 → okP (f v)) : ∃ σ2, f_variables (nI e) (nI ar) (nI into) (b2 tr) σ = some σ2 ∧ rW into e σ σ2 ∧ vrW σ2 (3 * (30 * into + e)) 3 (qVr σ (rI T G σ ar e tr)) := by
  obtain ⟨σ1, e1, b1, h1⟩ := r_vars_6 hw rs har hin he tr (fun v hv a ha => (hok v hv a ha).1) 3 4000 0 σ rfl (by decide) (rW.rf σ) (fun v hv => by omega)
  obtain ⟨σ2, e2, b2, h2⟩ := r_variables_259 hw rs har hin he tr hok hP 3 4000 0 σ1 rfl (by decide) b1 (fun w hw3 => by
    have := h1 w hw3
    simp only [if_neg (Nat.not_lt_zero w)]
    exact this)
  refine ⟨σ2, ?_, b2, h2⟩
  unfold f_variables
  rw [show (0 : Int32) = nI 0 from rfl, show vMk σ (rI T G σ ar e tr).1 0 = nI 0 from rfl] at *
  rw [e1, e2]
end RF
