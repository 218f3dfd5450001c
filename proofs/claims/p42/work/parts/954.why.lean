section WHY
variable {T : qqT} {G : qqG} {L : qqL} {A : kA} {ex : Nat → Nat → Prop} {K K' : kS} {S S' : cS} {σ σ' : mS} {v v' nw k : Nat}
theorem prep_both (hw : Tw T) (hA : KA A ex K S) (hin : kIn A ex K) (j : J0 T G L ex K σ v) (hv : v < 2 ^ 31) (hit : hitS T G σ) : ∃ S' K', f_X1_prepare (A 58 0) S = some S' ∧ KA A ex K' S' ∧ kIn A ex K' ∧ J0 T G L ex K' σ v ∧ KX T G A ex K' σ := by
  obtain ⟨S3, K3, e3, h3, m3, b3, p3⟩ := c_prepare hw j.1.1 j.1.2.2.1 j.2.2.2.2.2.1.1 hv j.2.1.1 j.2.1.2.1 hA
  have j3 : J0 T G L ex K3 σ v := j.kf b3 PRI_ok (fun _ _ _ z => z.elim) m3
  have in3 : kIn A ex K3 := hin.kp b3 (fun i j => by unfold PRI SOI; omega)
  have kpr : KPr T G K3 σ := KPr.of (σ := σ) hw hit (fun f hf => rfl) p3
  exact ⟨S3, K3, e3, h3, in3, j3, ⟨j3.2.1.1, j3.1.1.1, j3.1.1.2.1, j3.1.1.2.2.1, j3.2.1.2.1, kpr, j3.2.1.2.2.1⟩, j3.1.2.1, in3, j3.2.1.2.2.2.1⟩
theorem Lwk_some {o : Option Int32} {e p r : Nat} {lim : Int32} (h : (Ldc σ p r && (decide (Lor G σ r < lim) && Lap T G σ o e r)) = true) : ∀ k, r < k → (Lwk T G σ o e p lim k).isSome = true := by
  intro k
  induction k with
  | zero => intro z; omega
  | succ k ih =>
    intro hk
    show (if Lwc T G σ o e p lim k (Lwk T G σ o e p lim k) = true then some k else Lwk T G σ o e p lim k).isSome = true
    by_cases c : Lwc T G σ o e p lim k (Lwk T G σ o e p lim k) = true
    · rw [if_pos c]; rfl
    · rw [if_neg c]
      by_cases z : r = k
      · subst z
        cases hq : Lwk T G σ o e p lim r with
        | some a => rfl
        | none =>
          rw [hq] at c
          refine absurd ?_ c
          unfold Lwc
          rw [Bool.and_eq_true, Bool.and_eq_true] at h
          rw [h.1, h.2.1, h.2.2]; rfl
      · exact ih (by omega)
theorem bka_11 (h : KA A ex K S) (hw : Tw T) (hc : RC T G σ) (t : KT T ex K) (c : KC T G ex K σ) {a r : Nat} (ha : VR T G a) (hr : r < Gr G) : (bka A a = A 11 r) ↔ a = r := by
  have h40 := hc.r40
  rw [← bka_lt (A := A) (show r < 40 by omega)]
  refine ⟨fun z => ?_, fun z => by rw [z]⟩
  have := h.2.1 _ _ _ _ (ha.bk hc t c).1 ((show VR T G r from Or.inl hr).bk hc t c).1 z
  unfold bkr at this
  by_cases c1 : a < 40
  · rw [if_pos c1, if_pos (show r < 40 by omega)] at this; exact this.2
  · rw [if_neg c1, if_pos (show r < 40 by omega)] at this; exact absurd this.1 (by show ¬ (1 : Nat) = 11; decide)
theorem why_both (hw : Tw T) (h : KA A ex K S) (j : J0 T G L ex K σ v) (x : KX T G A ex K σ) (rs : RS T G σ) {e p r : Nat} (he : e < Tn T) (hp : p < 15) (hr : r < Gr G) : ∃ val, (f_X11_holderOf (A 49 0) (some (A 0 e)) 0 S).bind (fun v10 => f_X1_reason (A 58 0) (some (A 11 r)) (some (A 0 e)) (nI p) v10 S) = some val ∧ ((rd σ 37 (((16:Int32) * nI r) + nI p)).bind (fun v3 => if v3 < (0:Int32) then (f_why_93 ((((16:Int32) * nI r) + nI p)) σ) else ((rd σ 32 (nI r)).bind (fun v4 => (rd σ 30 v4).bind (fun v5 => if v5 = (0:Int32) then (f_why_93 ((((16:Int32) * nI r) + nI p)) σ) else ((f_stands (nI r) σ).bind (fun v6 => if v6 = (0:Int32) then (f_why_133 (nI r) σ) else ((rd σ 74 (nI r)).bind (fun v7 => (f_bit (v7) (nI e)).bind (fun v8 => if v8 = (0:Int32) then (f_why_133 (nI r) σ) else ((f_fits (nI r) (nI e) ((0:Int32)) ((0:Int32)) σ).bind (fun v9 => if v9 = (0:Int32) then (some ((7:Int32), σ)) else ((f_winner (nI e) (nI p) ((3:Int32)) ((0:Int32)) ((0:Int32)) σ).bind (fun v10 => if v10 = (((16:Int32) * nI r) + nI p) then (f_why_193 ((0:Int32)) σ) else ((f_against (v10) ((((16:Int32) * nI r) + nI p)) σ).bind (fun v11 => f_why_193 (v11) σ)))))))))))))))) = some (val, σ) := by
  have h30 := hw.n30
  have w := x.1
  obtain ⟨hc, t, p9, kl, kc, kpr, kd⟩ := id w
  have h40 := hc.r40
  have anc : kAnc T K σ false e := fun y hy => (j.2.2.2.1.1 y (TB_ne hw he hy).1).1
  have hho := hsz_ho hw x h false he anc
  have hol := c_holderOf hw t p9 x.2.1 kl h false he anc
  have rc58 : rc S (some (A 58 0)) 1 = some (A 58 0) := p9.r1 h
  have vr : VR T G r := Or.inl hr
  have ei : (16 : Int32) * nI r + nI p = nI (16 * r + p) := by rw [show (16 : Int32) = nI 16 from rfl, pk_mul, nI_add]
  have hol' : f_X11_holderOf (A 49 0) (some (A 0 e)) 0 S = some ((Tho T (Hv σ 0) e).map (A 6)) := hol
  have em : (Tho T (Hv σ 0) e).map (A 6) = ((Tho T (Hv σ 0) e).map (fun y => (6, y))).map (kp A) := by
    cases Tho T (Hv σ 0) e <;> rfl
  have ho : match (Tho T (Hv σ 0) e).map (A 6) with
    | none => hsz T σ 0 e = none
    | some y => gI S (some y) 9 2 = hsz T σ 0 e := by
    rw [em]
    rcases hho.g h with ⟨g1, g2⟩ | ⟨z, y, g1, g2, g3⟩
    · have g2' : ((Tho T (Hv σ 0) e).map (fun y => (6, y))).map (kp A) = none := g2
      rw [g2']; exact g1
    · have g2' : ((Tho T (Hv σ 0) e).map (fun y => (6, y))).map (kp A) = some y := g2
      rw [g2']; exact g3.trans g1.symm
  have hon : ((Tho T (Hv σ 0) e).map (A 6)).isSome = true → (hsz T σ 0 e).isSome = true := by
    unfold hsz
    cases Tho T (Hv σ 0) e <;> simp
  have dcl : f_X6_declares (A 11 r) (nI p) S = some (b2 (Ldc σ p r)) := by
    rw [← bka_lt (A := A) (show r < 40 by omega)]
    exact c_declares h vr hc t kc (kd r vr) hp
  have rc6 : rc S (some (A 11 r)) 6 = some (A 11 r) := h.Rc 11 6 ((kc.2.1 r hr).1 11 (by decide) (by decide)) rfl
  obtain ⟨f1, f2⟩ := hc.f hr
  obtain ⟨-, -, -, -, b0, hb0⟩ := hc.2.2.1 (Gsf G r) f2
  have hol2 := hc.k8
  rw [hol', qqx, ei, rd_37 (by omega), qqx]
  unfold f_X1_reason f_why_93 f_why_110 f_why_133 f_why_148 f_why_193 f_X1_reason_56 f_X1_reason_68
  rw [rc6, qqx, dcl, qqx, b2_i0, rd_37 (by omega), qqx]
  cases hl : Ldc σ p r with
  | false =>
    have hn : ¬ (0 : Int32) ≤ σ.1 37 (16 * r + p) := fun z => by
      unfold Ldc at hl
      rw [decide_eq_true z] at hl; cases hl
    rw [if_neg (by decide), if_pos (Int32.not_le.mp hn), if_neg hn]
    exact ⟨_, rfl, rfl⟩
  | true =>
    have hn : (0 : Int32) ≤ σ.1 37 (16 * r + p) := of_decide_eq_true hl
    have q : KQ T ex K := j.1.1
    have lst := r_stands hw rs.1 hc hr
    have fit := r_fits hw rs.2.2 (ar := 0) (by decide) he (show r < 40 by omega) false
    have win := r_winner hw rs.1 hc rs.2.2 (ar := 0) (by decide) he hp false 3
    have fit' : f_fits (nI r) (nI e) 0 0 σ = some (b2 (Lfit σ (hsz T σ 0 e) r)) := fit
    have win' : f_winner (nI e) (nI p) 3 0 0 σ = some (rwc p (Lwin T G σ (hsz T σ 0 e) e p 3)) := win
    obtain ⟨th, th1, th2⟩ : ∃ th, f_X1_isThere (A 58 0) (some (A 16 (Gsf G r))) S = some (b2 th) ∧ Lst T G σ r = (decide (σ.1 30 (Gsf G r) = 1) && th) := ⟨_, c_isThere hw q hc kc h f2, rfl⟩
    have c11 := kc.2.1 r hr
    have x11 : ex 11 r := c11.1 11 (by decide) (by decide)
    have g1 : gR S (some (A 11 r)) 6 1 = some (some (A 16 (Gsf G r))) := by rw [h.R 11 6 x11 rfl, c11.2.2.1]; rfl
    have g4 : gI S (some (A 16 (Gsf G r))) 8 4 = some (b2 b0) := by rw [h.I 16 8 (kc.1 _ f2).1 rfl, (kc.1 _ f2).2.2.2.2.2.1, hb0]
    have g13 : gI S (some (A 11 r)) 6 13 = some (K.1 11 r 13) := h.I 11 6 x11 rfl
    have gn := t.gn h he
    have mt := (kpr r hr).2 e he
    have hld := c_holds1 h p9 hc t kc hr ho hon
    have hin : f_X1_hindrance (A 58 0) (some (A 11 r)) (some (A 0 e)) ((Tho T (Hv σ 0) e).map (A 6)) S = some (if b0 = true then (if th = true then (if bt (K.1 11 r 13) e = true then (if Lfit σ (hsz T σ 0 e) r = true then 0 else 7) else 8) else 9) else 10) := by
      unfold f_X1_hindrance f_X1_hindrance_17 f_X1_hindrance_66
      rw [g1, qqx, if_neg (fun z => by cases z), qqx, g4, qqx, b2_i0, qqx]
      cases b0 with
      | false => rw [if_neg (by decide), if_neg (by decide)]
      | true =>
        rw [if_pos rfl, if_pos rfl, rc58, qqx, th1, qqx, b2_i0]
        cases th with
        | false => rw [if_neg (by decide), if_neg (by decide)]
        | true =>
          rw [if_pos rfl, if_pos rfl, g13, qqx, gn, qqx, c_ask _ (by omega)]
          cases hm : bt (K.1 11 r 13) e with
          | false => rw [if_neg (by decide), if_neg (by decide)]
          | true =>
            rw [if_pos rfl, if_pos rfl, qqx, hld, qqx, b2_i0]
            cases Lfit σ (hsz T σ 0 e) r with
            | false => rw [if_neg (by decide), if_neg (by decide)]
            | true => rw [if_pos rfl, if_pos rfl]
    rw [if_pos rfl, if_neg (Int32.not_lt.mpr hn), f1, qqx, rd_30 (by omega), qqx, if_pos hn, hb0, b2_i0, rc58, qqx, lst]
    rw [hb0] at th2
    cases b0 with
    | false =>
      have hin' : f_X1_hindrance (A 58 0) (some (A 11 r)) (some (A 0 e)) ((Tho T (Hv σ 0) e).map (A 6)) S = some 10 := by rw [hin]; rfl
      refine ⟨10, ?_, ?_⟩
      · rw [hin', qqx, if_neg (by decide)]
      · rw [if_neg (by decide)]
    | true =>
      have th2' : Lst T G σ r = th := by rw [th2]; exact Bool.true_and th
      rw [th2'] at mt ⊢
      cases th with
      | false =>
        have hin' : f_X1_hindrance (A 58 0) (some (A 11 r)) (some (A 0 e)) ((Tho T (Hv σ 0) e).map (A 6)) S = some 9 := by rw [hin]; rfl
        refine ⟨9, ?_, ?_⟩
        · rw [hin', qqx, if_neg (by decide)]
        · rw [if_pos rfl, qqx, if_pos (show b2 false = 0 from rfl), qqx, if_pos (show b2 false = 0 from rfl)]
      | true =>
        rw [Bool.true_and] at mt
        rw [mt] at hin
        have ne1 : ¬ (b2 true = 0) := by decide
        cases hm : bt (σ.1 74 r) e with
        | false =>
          have hin' : f_X1_hindrance (A 58 0) (some (A 11 r)) (some (A 0 e)) ((Tho T (Hv σ 0) e).map (A 6)) S = some 8 := by rw [hin, hm]; rfl
          refine ⟨8, ?_, ?_⟩
          · rw [hin', qqx, if_neg (by decide)]
          · rw [if_pos rfl, qqx, if_neg ne1, rd_74 (by omega), qqx, r_bit _ (by omega), qqx, hm, if_pos (show b2 false = 0 from rfl), qqx, if_neg ne1]
        | true =>
          cases hf : Lfit σ (hsz T σ 0 e) r with
          | false =>
            have hin' : f_X1_hindrance (A 58 0) (some (A 11 r)) (some (A 0 e)) ((Tho T (Hv σ 0) e).map (A 6)) S = some 7 := by rw [hin, hm, hf]; rfl
            refine ⟨7, ?_, ?_⟩
            · rw [hin', qqx, if_neg (by decide)]
            · rw [if_pos rfl, qqx, if_neg ne1, rd_74 (by omega), qqx, r_bit _ (by omega), qqx, hm, if_neg ne1, fit', qqx, hf, if_pos (show b2 false = 0 from rfl)]
          | true =>
            have hin' : f_X1_hindrance (A 58 0) (some (A 11 r)) (some (A 0 e)) ((Tho T (Hv σ 0) e).map (A 6)) S = some 0 := by rw [hin, hm, hf]; rfl
            obtain ⟨z, ap1, ap2⟩ := c_applying h p9 hc t kc kpr hw he ho hon
            have cw := c_winner hw h w he hp (lim := 3) ap2
            have lap : Lap T G σ (hsz T σ 0 e) e r = true := by unfold Lap; rw [hm, th2', hf]; rfl
            obtain ⟨o, o3, olr⟩ := hc.lor vr
            have lim : decide (Lor G σ r < 3) = true := decide_eq_true (by rw [olr]; exact nI_lt (b := 3) o3 (by decide))
            obtain ⟨a, ha⟩ := Option.isSome_iff_exists.mp (Lwk_some (T := T) (p := p) (lim := 3) (by rw [hl, lim, lap]; rfl) (Gr G) hr)
            have ha' : Lwin T G σ (hsz T σ 0 e) e p 3 = some a := ha
            obtain ⟨va, -, da, -⟩ := Lwin_is hc he ha'
            have a70 := va.lt hw hc
            have cwa : f_X1_winner (A 58 0) (some (A 0 e)) (nI p) z 3 S = some (some (bka A a)) := by rw [cw, ha']; rfl
            have wina : f_winner (nI e) (nI p) 3 0 0 σ = some (nI (16 * a + p)) := by rw [win', ha']; rfl
            have b11 := bka_11 h hw hc t kc va hr
            have pre := c_precedence h w va vr hp da hl
            rw [bka_lt (A := A) (show r < 40 by omega)] at pre
            have agn := r_against hw rs.1 hc va vr (p := p) (by omega)
            by_cases y : a = r
            · refine ⟨0, ?_, ?_⟩
              · rw [hin', qqx, if_pos rfl, qqx, ap1, qqx, qqx, cwa, qqx, if_neg (fun z => by cases z), if_pos (show some (bka A a) = some (A 11 r) by rw [b11.mpr y])]
              · rw [if_pos rfl, qqx, if_neg ne1, rd_74 (by omega), qqx, r_bit _ (by omega), qqx, hm, if_neg ne1, fit', qqx, hf, if_neg ne1, wina, qqx, if_pos (by rw [y])]
            · refine ⟨Lag T G σ p a r, ?_, ?_⟩
              · rw [hin', qqx, if_pos rfl, qqx, ap1, qqx, qqx, cwa, qqx, if_neg (fun z => by cases z), if_neg (fun x => y (b11.mp (Option.some.inj x))), qqx, pre, qqx]
              · rw [if_pos rfl, qqx, if_neg ne1, rd_74 (by omega), qqx, r_bit _ (by omega), qqx, hm, if_neg ne1, fit', qqx, hf, if_neg ne1, wina, qqx, if_neg (fun x => y (by have := (nI_eqE (by omega) (by omega)).mp x; omega)), agn, qqx]
theorem sq_why {T : qqT} {G : qqG} {L : qqL} {A : kA} {ex : Nat → Nat → Prop} {K : kS} {v nw k : Nat} {S : cS} {σ : mS} (hk : k < 60000) (w : JW k T G L A ex K v nw S σ) (a1 a2 a3 : Int32) : sJR [2, 0, 1] lvN (JP (pf T G σ (P_rd T G σ)) (k + 1)) (f_X11_why 1 a1 a2 a3 S) (f_why a1 a2 a3 σ) := by
  obtain ⟨⟨hw, hA, hin⟩, h49, ⟨hv, hn, -⟩, j⟩ := id w
  have h30 := hw.n30
  have q := j.1.1
  have rt := j.1.2.2.2
  have h40 := j.2.1.1.r40
  refine at49 (P := fun x => sJR [2, 0, 1] lvN (JP (pf T G σ (P_rd T G σ)) (k + 1)) (f_X11_why x a1 a2 a3 S) (f_why a1 a2 a3 σ)) h49 ?_
  unfold f_X11_why f_why f_why_17 f_X11_why_28 f_X11_why_48
  rw [q.2.1.r11 hA, qqx, r_isElement rt hw, qqx]
  rcases ix_cases a1 (n := Tn T) (by omega) with ⟨e, he, rfl⟩ | hx
  · rw [c_elementAt hw q hA he, qqx, if_dt (nI_inn he (by omega)), r_isRule j, qqx]
    show sJR _ _ _ ((rc S (some (A 49 0)) 11).bind _) _
    rw [q.2.1.r11 hA, qqx]
    show sJR _ _ _ ((f_X11_ruleAt (A 49 0) a3 S).bind _) _
    rcases ix_cases a3 (n := Gr G) (by omega) with ⟨r, hr, rfl⟩ | hx
    · rw [c_ruleY j hA hr, qqx, if_dt (nI_inn hr (by omega)), r_in0 a2 (n := 15) (by decide) (by decide), qqx]
      show sJR _ _ _ ((f_X11_isBelow a2 (nI 15)).bind _) _
      rw [c_isBelow, qqx]
      rcases ix_cases a2 (n := 15) (by decide) with ⟨p, hp, rfl⟩ | hx
      · rw [if_dt (nI_inn hp (by decide)), if_dt (nI_inn hp (by decide)), c_refA0, qqx, r_inDoc hw rt he, qqx]
        show sJR _ _ _ ((gR S (some (A 49 0)) 11 0).bind _) _
        rw [q.2.1.trees hA, qqx, hA.Rc 50 10 (q.2.1.x (by decide) (by decide) (by decide)) rfl, qqx, c_holds hw hA q he, qqx, b2_i0, b2_i0]
        cases hd : TD T e with
        | false =>
          rw [if_neg (by decide), if_neg (by decide), c_refS1, qqx]
          unfold f_why_49
          rw [r_holds3, qqx]
          exact sJR.l rfl (w.no 3)
        | true =>
          rw [if_pos rfl, if_pos rfl, c_refS0, qqx]
          unfold f_why_49
          rw [r_holds0, qqx, if_pos rfl]
          have j0 := j.scR (scR_sf σ 0)
          obtain ⟨S1, K1, σ1, v1, e1, e2, h1, in1, j1, v11, v12, rs, row, hit, f, kn⟩ := read_both hw hn.2 hA hin j0 (by omega)
          obtain ⟨S2, K2, e3, h2, in2, j2, x2⟩ := prep_both hw h1 in1 j1 (by omega) hit
          obtain ⟨val, m1, m2⟩ := why_both hw h2 j2 x2 rs he hp hr
          rw [e2, qqx]
          have q1 := j1.1.1
          have q2 := j2.1.1
          have fin : sJR [2, 0, 1] lvN (JP (pf T G σ (P_rd T G σ)) (k + 1)) (some (.inr val, S2)) (some (val, σ1)) := sJR.r rfl ((f 81 (by decide)).trans rfl) (w.to h2 in2 j2 (by omega) ((f 54 (by decide)).trans rfl) (Or.inr ⟨(f 81 (by decide)).trans rfl, rfl, rfl, e2⟩))
          rw [← m2] at fin
          have lhs : ((f_X11_holderOf (A 49 0) (some (A 0 e)) 0 S2).bind (fun v10 => (rc S2 (some (A 58 0)) 1).bind (fun v11 => (f_X1_reason v11 (some (A 11 r)) (some (A 0 e)) (nI p) v10 S2).bind (fun v12 => some ((.inr v12 : Nat ⊕ Int32), S2))))) = some (.inr val, S2) := by
            cases hh : f_X11_holderOf (A 49 0) (some (A 0 e)) 0 S2 with
            | none => rw [hh] at m1; cases m1
            | some y => rw [hh, qqx] at m1; rw [qqx, q2.2.1.r1 h2, qqx, m1, qqx]
          rw [← lhs] at fin
          show sJR _ _ _ ((rc S (some (A 49 0)) 11).bind _) _
          rw [q.2.1.r11 hA, qqx]
          show sJR _ _ _ ((f_X11_read (A 49 0) S).bind _) _
          rw [e1, qqx, q1.2.1.cascade h1, qqx, q1.2.1.r1 h1, qqx, e3, qqx, q2.2.1.cascade h2, qqx, q2.2.1.r11 h2, qqx]
          exact fin
      · rw [if_df hx, if_df hx, c_refA1, qqx]
        unfold f_why_49
        rw [r_holds2, qqx]
        exact sJR.l rfl (w.no 2)
    · rw [c_ruleN j hA hx, qqx, if_df hx]
      unfold f_why_49
      rw [r_holds1, qqx]
      exact sJR.l rfl (w.no 1)
  · rw [c_elementN hw q hA hx, qqx, if_df hx]
    unfold f_why_49
    rw [r_holds1, qqx]
    exact sJR.l rfl (w.no 1)
end WHY
