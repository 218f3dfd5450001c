theorem bit_and0 {x : Int32} {b : Nat} (hb : b < 32) : (x &&& ((1 : Int32) <<< (nI b &&& 31)) = 0) = (bt x b = false) := by
  refine propext ⟨fun h => ?_, fun h => ?_⟩
  · have : bt (x &&& ((1 : Int32) <<< (nI b &&& 31))) b = bt x b := by rw [b_and, b_one hb hb, decide_eq_true rfl, Bool.and_true]
    rw [← this, h, b_0]
  · apply b_ext
    intro i hi
    rw [b_and, b_one hb hi, b_0]
    by_cases c : i = b
    · rw [c, h]; rfl
    · rw [decide_eq_false c, Bool.and_false]
theorem orF_and {f : Nat → Int32} {n b : Nat} (hb : b < 32) : (orF (fun r => f r &&& ((1 : Int32) <<< (nI b &&& 31))) n = 0) = (bt (orF f n) b = false) := by
  refine propext ⟨fun h => Bool.eq_false_iff.mpr (fun z => ?_), fun h => ?_⟩
  · obtain ⟨r, hr, hf⟩ := (orF_bt f b n).mp z
    have : bt (orF (fun r => f r &&& ((1 : Int32) <<< (nI b &&& 31))) n) b = true := (orF_bt _ b n).mpr ⟨r, hr, by rw [b_and, b_one hb hb, decide_eq_true rfl, hf]; rfl⟩
    rw [h, b_0] at this; cases this
  · apply b_ext
    intro i hi
    rw [b_0]
    refine Bool.eq_false_iff.mpr (fun z => ?_)
    obtain ⟨r, hr, hf⟩ := (orF_bt _ i n).mp z
    rw [b_and, b_one hb hi] at hf
    by_cases c : i = b
    · rw [c] at hf
      have : bt (orF f n) b = true := (orF_bt f b n).mpr ⟨r, hr, by revert hf; cases bt (f r) b <;> simp⟩
      rw [h] at this; cases this
    · rw [decide_eq_false c, Bool.and_false] at hf; cases hf
section TGL
variable {T : qqT} {G : qqG} {L : qqL} {A : kA} {ex : Nat → Nat → Prop} {K K' : kS} {S : cS} {σ σ' : mS} {v : Nat}
theorem r_markTest (hw : Tw T) (hr : RT T σ) {nr : Nat} {sel : Nat → Nat} (hu : RU σ nr sel) {e b : Nat} (he : e < Tn T) (hb : b < 32) : ∃ σ', f_markTest (nI e) ((1 : Int32) <<< (nI b &&& 31)) σ = some σ' ∧ RMk T (TMf T (bt (orF (fun r => σ.1 23 (sel r)) nr) b) (bt (orF (fun r => σ.1 24 (sel r)) nr) b) e) σ σ' := by
  have h30 := hw.n30
  obtain ⟨u1, u2, u3⟩ := hu
  have fin : ∀ (y x4 : Int32) (nf ff : Bool), y = (if nf = true then (1 : Int32) <<< (nI e &&& 31) else 0) → (x4 = 0) = (ff = false) → ∃ σ', f_markTest_71 (nI e) x4 y σ = some σ' ∧ RMk T (TMf T nf ff e) σ σ' := by
    intro y x4 nf ff hy h4
    unfold f_markTest_71
    obtain ⟨σ1, e1, b1⟩ := r_mark hw hr y
    rw [e1, qqx, r_treeOf hw (b1.rt hr) he, qqx]
    obtain ⟨σ2, e2, b2'⟩ := r_markTest_84 hw he h4 (Tn T) 4000 0 σ1 (b1.rt hr) (by omega) (by omega)
    refine ⟨σ2, e2, (b1.tr b2').cg (fun x hx _ => ?_)⟩
    unfold TMf
    rw [hy]
    cases nf with
    | true => rw [if_pos rfl, b_one (by omega) (by omega)]; simp
    | false => rw [if_neg (by decide), b_0]; simp
  have key : ∀ d m k, k + d = nr → d < m → ∃ σ', f_markTest_8 m (nI e) ((1 : Int32) <<< (nI b &&& 31)) (orF (fun r => σ.1 23 (sel r) &&& ((1 : Int32) <<< (nI b &&& 31))) k) (orF (fun r => σ.1 24 (sel r) &&& ((1 : Int32) <<< (nI b &&& 31))) k) (nI k) σ = some σ' ∧ RMk T (TMf T (bt (orF (fun r => σ.1 23 (sel r)) nr) b) (bt (orF (fun r => σ.1 24 (sel r)) nr) b) e) σ σ' := by
    intro d
    induction d with
    | zero =>
      intro m k hk hm
      obtain ⟨m, rfl⟩ : ∃ m', m = m' + 1 := ⟨m - 1, by omega⟩
      have hk : k = nr := by omega
      subst hk
      rw [f_markTest_8, u1, if_pos (Int32.le_refl _)]
      have h24 := orF_and (f := fun r => σ.1 24 (sel r)) (n := k) hb
      have h23 := orF_and (f := fun r => σ.1 23 (sel r)) (n := k) hb
      by_cases c : orF (fun r => σ.1 23 (sel r) &&& ((1 : Int32) <<< (nI b &&& 31))) k = 0
      · rw [if_pos c]
        have c' := h23.mp c
        exact fin 0 _ _ _ (by rw [c', if_neg (by decide)]) h24
      · rw [if_neg c]
        have c' : bt (orF (fun r => σ.1 23 (sel r)) k) b = true := Bool.not_eq_false _ |>.mp (fun z => c (h23.mpr z))
        exact fin _ _ _ _ (by rw [c', if_pos rfl]) h24
    | succ d ih =>
      intro m k hk hm
      obtain ⟨m, rfl⟩ : ∃ m', m = m' + 1 := ⟨m - 1, by omega⟩
      obtain ⟨w1, w2⟩ := u3 k (by omega)
      rw [f_markTest_8, u1, if_neg (nI_ge (by omega) (by omega)), rd_33 (by omega), qqx, w1, rd_23 (by omega), qqx, qqx, rd_24 (by omega), qqx, nI_1]
      exact ih m (k + 1) (by omega) (by omega)
  unfold f_markTest
  exact key nr 4000 0 (by omega) (by omega)
theorem c_markFt (hw : Tw T) (h : KA A ex K S) (q : KQ T ex K) (ft : KFt G K σ) {e b : Nat} (he : e < Tn T) (hb : b < 14) : ∃ S' K', f_X11_markFeature (A 49 0) (some (A 0 e)) ((1 : Int32) <<< (nI b &&& 31)) S = some S' ∧ KA A ex K' S' ∧ CMk T (TMf T (bt (orF (fun r => σ.1 23 (Gse G r)) (Gr G)) b) (bt (orF (fun r => σ.1 24 (Gse G r)) (Gr G)) b) e) K K' := by
  obtain ⟨S', K', e1, h1, c1⟩ := c_markFeature hw h q he ((1 : Int32) <<< (nI b &&& 31))
  refine ⟨S', K', e1, h1, c1.cg (fun y _ _ => ?_)⟩
  have k9 : (!decide (K.1 58 0 9 &&& ((1 : Int32) <<< (nI b &&& 31)) = 0)) = bt (orF (fun r => σ.1 23 (Gse G r)) (Gr G)) b := by
    rw [← (ft.2.1 b hb).1]
    cases hc : bt (K.1 58 0 9) b with
    | true => rw [decide_eq_false (fun z => by rw [(bit_and0 (by omega)).mp z] at hc; cases hc)]; rfl
    | false => rw [decide_eq_true ((bit_and0 (by omega)).mpr hc)]; rfl
  have k10 : (!decide (K.1 58 0 10 &&& ((1 : Int32) <<< (nI b &&& 31)) = 0)) = bt (orF (fun r => σ.1 24 (Gse G r)) (Gr G)) b := by
    rw [← (ft.2.1 b hb).2]
    cases hc : bt (K.1 58 0 10) b with
    | true => rw [decide_eq_false (fun z => by rw [(bit_and0 (by omega)).mp z] at hc; cases hc)]; rfl
    | false => rw [decide_eq_true ((bit_and0 (by omega)).mpr hc)]; rfl
  rw [k9, k10]
theorem feat_both (hw : Tw T) (h : KA A ex K S) (j : J0 T G L ex K σ v) {e b : Nat} (he : e < Tn T) (hb : b < 14) {f jj : Nat} (hfj : (f = 1 ∧ jj = 2) ∨ (f = 2 ∧ jj = 3) ∨ (f = 3 ∧ jj = 4) ∨ (f = 5 ∧ jj = 6)) (val : Int32) (hv : v + 1 < 2 ^ 31) : ∃ S1 S2, pI S (some (A 0 e)) 3 jj val = some S1 ∧ gI S1 (some (A 50 0)) 10 3 = some (nI v) ∧ pI S1 (some (A 50 0)) 10 3 (nI v + 1) = some S2 ∧ KA A ex (kwI (kwI K 0 e jj val) 50 0 3 (nI (v + 1))) S2 ∧ (KQ T ex (kwI (kwI K 0 e jj val) 50 0 3 (nI (v + 1)))) ∧ ∃ S' K' σ', f_X11_markFeature (A 49 0) (some (A 0 e)) ((1 : Int32) <<< (nI b &&& 31)) S2 = some S' ∧ f_markTest (nI e) ((1 : Int32) <<< (nI b &&& 31)) (up σ f e val) = some σ' ∧ KA A ex K' S' ∧ J0 T G L ex K' σ' (v + 1) ∧ kB (fun k i j => (k = 0 ∧ i = e ∧ j = jj) ∨ (k = 50 ∧ i = 0 ∧ j = 3) ∨ (k = 49 ∧ i = 0 ∧ j = 10)) F3 K K' ∧ sB [f] [49] σ σ' := by
  have jf := j.feat hw he hfj val hv
  have q := j.1.1
  obtain ⟨S1, e1, h1⟩ := h.PI (k := 0) (i := e) (t := 3) (j := jj) (q.1.E he (by decide)) rfl (by decide) val
  have x50 : ex 50 0 := q.2.1.x (by decide) (by decide) (by decide)
  obtain ⟨S2, e2, h2⟩ := h1.PI (k := 50) (i := 0) (t := 10) (j := 3) x50 rfl (by decide) (nI (v + 1))
  have q2 := jf.1.1
  obtain ⟨S3, K3, e3, h3, c3⟩ := c_markFt hw h2 q2 jf.2.1.2.2.2.2 he hb
  obtain ⟨σ3, e4, r4⟩ := r_markTest hw jf.1.2.2.2 jf.2.1.1.ru he (show b < 32 by omega)
  refine ⟨S1, S2, e1, ?_, by rw [nI_1]; exact e2, h2, q2, S3, K3, σ3, e3, e4, h3, jf.mark hw c3 r4, (((kB.rf K).I (Or.inl ⟨rfl, rfl, rfl⟩)).I (Or.inr (Or.inl ⟨rfl, rfl, rfl⟩))).tr (c3.kB.wd (fun k i j z => by unfold MI at z; omega) (fun _ _ _ z => z)), ((sB.rf σ).up (by simp)).tr (r4.sB.wd (by simp) (by simp))⟩
  rw [h1.I 50 10 x50 rfl, kwI_k (by decide), j.2.2.2.2.2.1.1.2.2.2.2.1.1]
theorem c_feature (k : Nat) (hk : k < 8) : f_X7_feature 1 (nI k) = some ((1 : Int32) <<< (nI k &&& 31)) := by
  unfold f_X7_feature
  rw [if_pos rfl]
theorem giveClass_both (hw : Tw T) (h : KA A ex K S) (j : J0 T G L ex K σ v) {e name : Nat} (he : e < Tn T) (hn : name < 8) (is : Bool) (hv : v + 1 < 2 ^ 31) {nv : Int32} (hnv : nv = if is = true then σ.1 1 e ||| ((1 : Int32) <<< (nI name &&& 31)) else σ.1 1 e &&& (((1 : Int32) <<< (nI name &&& 31)) ^^^ (-1))) : ∃ S' K' σ', f_X11_giveClass (A 49 0) (some (A 0 e)) (nI name) (b2 is) S = some S' ∧ f_markTest (nI e) ((1 : Int32) <<< (nI name &&& 31)) (up σ 1 e nv) = some σ' ∧ KA A ex K' S' ∧ J0 T G L ex K' σ' (v + 1) ∧ kB (fun k i j => (k = 0 ∧ i = e ∧ j = 2) ∨ (k = 50 ∧ i = 0 ∧ j = 3) ∨ (k = 49 ∧ i = 0 ∧ j = 10)) F3 K K' ∧ sB [1] [49] σ σ' := by
  obtain ⟨S1, S2, e1, e2, e3, h2, q2, S3, K3, σ3, e4, e5, h3, j3, b3, s3⟩ := feat_both hw h j he (b := name) (by omega) (f := 1) (jj := 2) (Or.inl ⟨rfl, rfl⟩) nv hv
  refine ⟨S3, K3, σ3, ?_, e5, h3, j3, b3, s3⟩
  have q := j.1.1
  have g2 : gI S (some (A 0 e)) 3 2 = some (σ.1 1 e) := by rw [h.I 0 3 (q.1.E he (by decide)) rfl, (j.1.2.2.1 e he).2.1]
  have g26 : f_X11_giveClass_26 (A 49 0) (some (A 0 e)) (nI name) (some (A 0 e)) nv S = some S3 := by
    unfold f_X11_giveClass_26
    have g0 : gR S1 (some (A 49 0)) 11 0 = some (some (A 50 0)) := by
      have h1' : KA A ex (kwI K 0 e 2 nv) S1 := by
        obtain ⟨S9, e9, h9⟩ := h.PI (k := 0) (i := e) (t := 3) (j := 2) (q.1.E he (by decide)) rfl (by decide) nv
        rw [e9] at e1; cases e1; exact h9
      exact (q.2.1.keep ((kB.rf K).I (PI := fun _ _ _ => True) (PR := F3) trivial) (fun _ _ _ z => z.elim)).trees h1'
    rw [e1, qqx, g0, qqx, e2, qqx, e3, qqx, c_feature name hn, qqx, q2.2.1.r11 h2, qqx, e4, qqx]
  unfold f_X11_giveClass
  rw [b2_i0]
  cases is with
  | true => rw [if_pos rfl] at hnv ⊢; rw [g2, qqx, ← hnv]; exact g26
  | false => rw [if_neg (by decide)] at hnv ⊢; rw [g2, qqx, ← hnv]; exact g26
end TGL
