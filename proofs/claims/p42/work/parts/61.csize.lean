section CSZ
variable {T : qqT} {G : qqG} {A : kA} {ex : Nat → Nat → Prop} {K K' : kS} {S : cS} {σ : mS}
abbrev ZI : Nat → Nat → Nat → Prop := FI 44 1
abbrev ZR : Nat → Nat → Nat → Prop := fun k y j => SR k y j ∨ FR 44 1 k y j
theorem ZI_q {k i j : Nat} (z : ZI k i j) : qOI k i j := by unfold ZI FI at z; unfold qOI; omega
theorem ZR_q {k i j : Nat} (z : ZR k i j) : qOR k i j := by unfold ZR SR FR at z; unfold qOR; omega
theorem kB.zq (b : kB ZI ZR K K') : kB qOI qOR K K' := b.wd (fun _ _ _ z => ZI_q z) (fun _ _ _ z => ZR_q z)
theorem vEqv.z {an : Bool} {e : Nat} (v : vEqv K σ an e) (b : kB ZI ZR K K') : vEqv K' σ an e := v.keep (fun p => b.1 _ _ _ (fun z => by unfold ZI FI at z; cases an <;> (unfold skd at z; simp at z))) (b.1 _ _ _ (fun z => by unfold ZI FI at z; cases an <;> (unfold skd at z; simp at z)))
theorem Tfl_y {T : qqT} {e y : Nat} {r : List Nat} (h : Tsp T y = some e) : Tfl T e (y :: r) = y :: Tfl T e r := by
  unfold Tfl
  rw [List.filter_cons_of_pos (by simp [h])]
theorem Tfl_n {T : qqT} {e y : Nat} {r : List Nat} (h : ¬ Tsp T y = some e) : Tfl T e (y :: r) = Tfl T e r := by
  unfold Tfl
  rw [List.filter_cons_of_neg (by simp [h])]
theorem c_sizeFor_35 (hw : Tw T) (an : Bool) {e : Nat} (he : e < Tn T) : ∀ (L : List Nat) (m : Nat) (a : Int32) (K : kS) (S : cS), KA A ex K S → KX T G A ex K σ → vEqv K σ an e → vEqv K σ an 0 → (∀ y ∈ L, y < Tn T ∧ TD T y = true) → (∀ y r, L = y :: r → chS K y r) → L.length < m → ∃ S' K', f_X11_sizeFor_35 (A 49 0) m (some (A 0 e)) (b2 an) (some (A (skd an) e)) a (el A L.head?) S = some (sumF (fun x => tmV σ (rI T G σ (sar an) x true)) (Tfl T e L) a, S') ∧ KA A ex K' S' ∧ kB ZI ZR K K' := by
  have h30 := hw.n30
  intro L
  induction L with
  | nil =>
    intro m a K S h x ve v0 hL hc hm
    obtain ⟨m, rfl⟩ : ∃ m', m = m' + 1 := ⟨m - 1, by omega⟩
    rw [f_X11_sizeFor_35, if_pos (show el A ([] : List Nat).head? = none from rfl)]
    exact ⟨S, K, rfl, h, kB.rf K⟩
  | cons y r ih =>
    intro m a K S h x ve v0 hL hc hm
    obtain ⟨m, rfl⟩ : ∃ m', m = m' + 1 := ⟨m - 1, by omega⟩
    have hy := hL y List.mem_cons_self
    have hL' : ∀ z ∈ r, z < Tn T ∧ TD T z = true := fun z hz => hL z (List.mem_cons_of_mem _ hz)
    have hm' : r.length < m := by
      have : (y :: r).length = r.length + 1 := rfl
      omega
    have t := x.1.2.1
    have p9 := x.1.2.2.1
    have l := x.1.2.2.2.1
    have next : ∀ (K1 : kS) (S1 : cS) (a1 : Int32), KA A ex K1 S1 → KX T G A ex K1 σ → vEqv K1 σ an e → vEqv K1 σ an 0 → kB ZI ZR K K1 → ∃ S' K', f_X11_sizeFor_136 (f_X11_sizeFor_35 (A 49 0) m) (A 49 0) (some (A 0 e)) (b2 an) (some (A (skd an) e)) a1 (some (A 0 y)) S1 = some (sumF (fun x => tmV σ (rI T G σ (sar an) x true)) (Tfl T e r) a1, S') ∧ KA A ex K' S' ∧ kB ZI ZR K K' := by
      intro K1 S1 a1 h1 x1 ve1 v01 b1
      have cs : chS K1 y r := chS_kB (hc y r rfl) b1 (fun i z => by unfold ZR SR FR at z; omega)
      unfold f_X11_sizeFor_136
      rw [g17 x1.1.2.1 h1 hy.1 (chS_ro cs), qqx]
      obtain ⟨S2, K2, e2, h2, b2⟩ := ih m a1 K1 S1 h1 x1 ve1 v01 hL' (fun z q hz => by
        rw [hz] at cs
        exact cs.2) hm'
      exact ⟨S2, K2, e2, h2, b1.tr b2⟩
    show ∃ S' K', f_X11_sizeFor_35 (A 49 0) (m + 1) (some (A 0 e)) (b2 an) (some (A (skd an) e)) a (some (A 0 y)) S = _ ∧ _
    rw [f_X11_sizeFor_35, if_neg (fun z => by cases z), g16 t h l.k16 hy.1, qqx]
    have heq : (el A (Tsp T y) = some (A 0 e)) = (Tsp T y = some e) := el_eq (x := Tsp T y) (y := some e) t h (fun z hz => (Tsp_cases hw hz).2.1) (fun z hz => by cases hz; exact he)
    by_cases c : Tsp T y = some e
    · rw [if_pos (heq.mpr c), p9.cascade h, qqx, p9.r1 h, qqx]
      obtain ⟨S1, K1, e1, h1, q1, b1⟩ := c_gather (G := G) hw hy.1 h x.1 (hh := none) (o := none) rfl (fun z => by cases z)
      have b1z : kB ZI ZR K K1 := b1.wd (fun _ _ _ z => z.elim) (fun _ _ _ z => Or.inl z)
      have x1 := x.va b1z.zq
      have t1 := x1.1.2.1
      have p1 := x1.1.2.2.1
      have st44 : kSt ex K1 44 1 := ⟨p1.1.2.2.2.2.2 1 44 (by decide) (by decide) (by decide), p1.1.2.2.2.2.2 1 45 (by decide) (by decide) (by decide), rfl, rfl, by decide, by decide, (p1.2.2.2.2.2.2 1 (by decide)).1⟩
      have free1 : gR S1 (some (A 49 0)) 11 9 = some (some (A 44 1)) := by rw [h1.R 49 11 (p1.x (by decide) (by decide) (by decide)) rfl, p1.2.1.2.2.2.2.2.2.2]; rfl
      rw [e1, qqx, free1, qqx, p1.cascade h1, qqx, x1.so13 h1, qqx, p1.trees h1, qqx, t1.top h1, qqx, p1.r11 h1, qqx, c_styleOf hw t1 p1 h1 an (by have := hw.n1; omega), qqx, qqx, x1.w50 h1, qqx, st44.rc h1, qqx]
      have hne44 : skd an ≠ 44 ∨ e ≠ 1 := Or.inl (by cases an <;> decide)
      obtain ⟨ao, hP⟩ := kAo_of (G := G) hw x1 an true (d := 44) (i := 1) hy.1 (fun z hz => by rw [c] at hz; cases hz; exact ve.z b1z) (fun z hz => Or.inl (by cases an <;> decide))
      have ao' : kAo ex K1 44 1 (rI T G σ (sar an) y true) (some (skd an, e)) := by
        rw [c] at ao
        exact ao
      have so1 : kSo ex K1 σ (rI T G σ (sar an) y true).1 := x1.so hw hy.1 q1
      obtain ⟨S2, K2, e2, h2, -, v2, bq⟩ := c_findFrom (I := rI T G σ (sar an) y true) h1 (ab := some (skd an, e)) (ho := none) (kt := skd an) (it := 0) ⟨st44, Or.inr (Or.inr rfl), x1.2.2.1, so1, hP, fun q hq b hb => (Lfnd_vr x1.1.1 hy.1 hb).1.lt hw x1.1.1, ao', rfl, x1.st hw an (by have := hw.n1; omega), fun _ => by
        have h43 := (v0.z b1z).1 1 (by decide)
        rw [h43]
        exact congrArg (σ.1 43) (by omega)⟩
      have b2z : kB ZI ZR K1 K2 := bq.wd (fun _ _ _ z => z) (fun _ _ _ z => Or.inr z)
      have e2 : f_X9_findFrom (A 44 1) (some (A 61 0)) (some (A (skd an) e)) (some (A (skd an) 0)) none (σ.2 50) S1 = some S2 := e2
      have x2 := x1.va b2z.zq
      have p2 := x2.1.2.2.1
      have st2 := st44.keep bq (fun z => by unfold FR at z; omega)
      have free2 : gR S2 (some (A 49 0)) 11 9 = some (some (A 44 1)) := by rw [h2.R 49 11 (p2.x (by decide) (by decide) (by decide)) rfl, p2.2.1.2.2.2.2.2.2.2]; rfl
      have val2 := v2.1 2 (by decide) (Or.inl (by decide))
      have val3 := v2.1 3 (by decide) (Or.inl (by decide))
      have go : ∀ z, z + (2 : Int32) * qVl σ (rI T G σ (sar an) y true) 3 = tmV σ (rI T G σ (sar an) y true) → ∃ S' K', f_X11_sizeFor_121 (f_X11_sizeFor_35 (A 49 0) m) (A 49 0) (some (A 0 e)) (b2 an) (some (A (skd an) e)) (some (A 0 y)) a z S2 = some (sumF (fun x => tmV σ (rI T G σ (sar an) x true)) (Tfl T e (y :: r)) a, S') ∧ KA A ex K' S' ∧ kB ZI ZR K K' := by
        intro z hz
        unfold f_X11_sizeFor_121
        rw [free2, qqx, st2.v h2, qqx, show (3 : Int32) = nI 3 from rfl, st2.a h2 (by decide), qqx, val3, hz, Tfl_y c]
        exact next K2 S2 _ h2 x2 ((ve.z b1z).z b2z) ((v0.z b1z).z b2z) (b1z.tr b2z)
      rw [e2, qqx, free2, qqx, st2.v h2, qqx, show (2 : Int32) = nI 2 from rfl, st2.a h2 (by decide), qqx, val2]
      by_cases c2 : qVl σ (rI T G σ (sar an) y true) 2 = -1000000
      · rw [if_pos c2]
        exact go 0 (by unfold tmV; rw [if_pos c2])
      · rw [if_neg c2]
        exact go _ (by unfold tmV; rw [if_neg c2])
    · rw [if_neg (fun z => c (heq.mp z)), Tfl_n c]
      exact next K S a h x ve v0 (kB.rf K)
theorem Tord_split (hw : Tw T) {e : Nat} (he : e < Tn T) (hd : TD T e = true) : ∃ A0 R, Tord T = A0 ++ e :: R := List.append_of_mem (Tord_mem hw e he hd)
theorem Tfl_perm (hw : Tw T) {e : Nat} {A0 R : List Nat} (he : e < Tn T) (ho : Tord T = A0 ++ e :: R) : List.Perm (Tfl T e R) (Tfan T e) := by
  have hnd := Tord_nodup hw
  rw [ho] at hnd
  have hR : R.Nodup := by
    have h1 := (List.nodup_append.mp hnd).2.1
    exact (List.nodup_cons.mp h1).2
  refine (List.perm_ext_iff_of_nodup (hR.filter _) (Tfan_nodup hw e he)).mpr (fun x => ?_)
  show x ∈ Tfl T e R ↔ _
  rw [Tfl_mem, Tfan_mem hw]
  constructor
  · exact fun z => z.2
  · intro z
    refine ⟨?_, z⟩
    have hx := (Tsp_cases hw z).1
    have heo : e ∈ Tord T := by rw [ho]; exact List.mem_append_right _ List.mem_cons_self
    have hxd : TD T x = true := by rw [Tsp_D hw z]; exact (Tord_is hw heo).2
    have hxo := Tord_mem hw x hx hxd
    rw [ho] at hxo
    rcases List.mem_append.mp hxo with h1 | h1
    · exact absurd h1 (TB_after hw ho x hx (TB_sp hw hx z).1)
    · rcases List.mem_cons.mp h1 with h2 | h2
      · exact absurd (Tsp_m hw z) (by rw [h2]; omega)
      · exact h2
theorem c_sizeFor (hw : Tw T) (x : KX T G A ex K σ) (h : KA A ex K S) (an : Bool) {e : Nat} (he : e < Tn T) (hd : TD T e = true) (ve : vEqv K σ an e) (ha : kAnc T K σ an e) : ∃ S' K', f_X11_sizeFor (A 49 0) (some (A 0 e)) (b2 an) S = some (qSize T G σ (sar an) e, S') ∧ KA A ex K' S' ∧ kB ZI ZR K K' := by
  have t := x.1.2.1
  have p9 := x.1.2.2.1
  have l := x.1.2.2.2.1
  have st := x.st hw an he
  have v0 : vEqv K σ an 0 := by
    by_cases h0 : e = 0
    · rw [← h0]; exact ve
    · exact ha 0 (TB_0 hw e he hd h0)
  unfold f_X11_sizeFor
  rw [p9.r11 h, qqx, c_styleOf hw t p9 h an he, qqx, st.v h, qqx, show (2 : Int32) = nI 2 from rfl, st.a h (by decide), qqx, ve.1 2 (by decide)]
  unfold qSize
  by_cases c : σ.1 43 (12 * (30 * sar an + e) + 2) = -1000000
  · rw [if_pos c, if_pos c]
    obtain ⟨A0, R, ho⟩ := Tord_split hw he hd
    have cs : chS K e R := l.at hw ho
    rw [g17 t h he (chS_ro cs), qqx]
    obtain ⟨S2, K2, e2, h2, b2⟩ := c_sizeFor_35 (A := A) (ex := ex) (σ := σ) (G := G) hw an he R 4000 0 K S h x ve v0 (fun y hy => Tord_is hw (by rw [ho]; exact List.mem_append_right _ (List.mem_cons_of_mem _ hy))) (fun y r hr => by rw [hr] at cs; exact cs.2) (by
      have := Tord_len hw
      rw [ho, List.length_append] at this
      have h2 : (e :: R).length = R.length + 1 := rfl
      omega)
    refine ⟨S2, K2, ?_, h2, b2⟩
    rw [e2, sumF_perm _ (Tfl_perm hw he ho)]
  · rw [if_neg c, if_neg c, qqx, st.a h (by decide), qqx, ve.1 2 (by decide)]
    exact ⟨S, K, rfl, h, kB.rf K⟩
end CSZ
