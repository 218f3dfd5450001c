def KL (T : qqT) (K : kS) : Prop := (∀ e, e < Tn T → K.1 0 e 14 = nI (Tix T e + 1) ∧ K.2 0 e 15 = ro 0 (TH T e) ∧ K.2 0 e 16 = ro 0 (Tsp T e) ∧ K.1 1 e 12 = nI (TL T e)) ∧ K.1 50 0 2 = qqM (TD T) (Tn T) ∧ chS K 0 (Tord T).tail
section LW
variable {T : qqT} {A : kA} {ex : Nat → Nat → Prop} {K : kS} {S : cS}
def LWay (K : kS) (D : List Nat) : List Nat → Prop
  | [] => chS K 0 D.tail
  | x :: r => seg K 0 (D ++ [x]).tail x ∧ chS K x r
theorem c_layOut_96 (hw : Tw T) : ∀ (k m : Nat) (D P : List Nat) (K : kS) (S : cS), KA A ex K S → KT T ex K → K16 T K → (∀ e, e < Tn T → K.2 0 e 15 = ro 0 (TH T e)) → TI T D P → D.length + k = 30 → k + 1 < m → LWay K D P → (∃ Z, D ++ P = 0 :: Z) → ∃ S' K', f_X10_layOut_96 (A 50 0) m (el A P.head?) (nI D.length) S = some S' ∧ KA A ex K' S' ∧ kB F3 (fun a i j => (a = 0 ∧ j = 17 ∧ i ∈ D ++ TordF T k P) ∨ (a = 0 ∧ j = 17 ∧ TD T i = true)) K K' ∧ chS K' 0 (D ++ TordF T k P).tail := by
  intro k
  induction k with
  | zero =>
    intro m D P K S h t k16 k15 hI hk hm hW hZ
    have h1 := TI_len hI
    have h2 := hw.n30
    have h3 : P = [] := by
      rw [List.length_append] at h1
      cases P with
      | nil => rfl
      | cons a as => simp only [List.length_cons] at h1; omega
    subst h3
    obtain ⟨m, rfl⟩ : ∃ m', m = m' + 1 := ⟨m - 1, by omega⟩
    rw [f_X10_layOut_96, if_pos (show (30 : Int32) ≤ nI D.length from nI_le (show 30 ≤ D.length by omega) (by omega))]
    refine ⟨S, K, rfl, h, kB.rf K, ?_⟩
    show chS K 0 (D ++ []).tail
    rw [List.append_nil]
    exact hW
  | succ k ih =>
    intro m D P K S h t k16 k15 hI hk hm hW hZ
    obtain ⟨m, rfl⟩ : ∃ m', m = m' + 1 := ⟨m - 1, by omega⟩
    rw [f_X10_layOut_96, if_neg (show ¬ (30 : Int32) ≤ nI D.length from nI_ge (show D.length < 30 by omega) (by decide))]
    cases P with
    | nil =>
      rw [if_pos (show el A ([] : List Nat).head? = none from rfl)]
      refine ⟨S, K, rfl, h, kB.rf K, ?_⟩
      show chS K 0 (D ++ []).tail
      rw [List.append_nil]
      exact hW
    | cons x r =>
      have hx := hI.2.1 x (List.mem_append_right _ List.mem_cons_self)
      have hI2 := TI_step hw hI
      obtain ⟨hW1, hW2⟩ := hW
      rw [if_neg (show ¬ el A (x :: r).head? = none from fun z => by cases z), t.r10 h]
      simp only [qqb]
      have hn9 : (D ++ (x :: (Tfan T x ++ r))).Nodup := by
        have := hI2.1
        rw [List.append_assoc] at this
        exact this
      obtain ⟨S1, K1, e1, h1, b1, c1⟩ := c_lineUp hw hx.1 h t k16 (k15 x hx.1) hW2 (List.nodup_append.mp hn9).2.1
      rw [show el A (x :: r).head? = some (A 0 x) from rfl, e1]
      simp only [qqb]
      have t1 := t.w17 b1
      have k16' := k16.w b1
      have k15' : ∀ e, e < Tn T → K1.2 0 e 15 = ro 0 (TH T e) := fun e he => by rw [b1.2 0 e 15 (by simp [W17])]; exact k15 e he
      have hnx : gR S1 (some (A 0 x)) 3 17 = some (el A (Tfan T x ++ r).head?) := by
        rw [h1.R 0 3 (t1.E hx.1 (by decide)) rfl]
        cases hc : Tfan T x ++ r with
        | nil => rw [hc] at c1; rw [show K1.2 0 x 17 = none from c1]; rfl
        | cons z r' => rw [hc] at c1; rw [c1.1]; rfl
      rw [hnx]
      simp only [qqb, nI_1]
      obtain ⟨Z, hZ⟩ := hZ
      have hhd : ∃ Z', D ++ [x] = 0 :: Z' := by
        cases D with
        | nil => injection hZ with a b; subst a; exact ⟨[], rfl⟩
        | cons d D => injection hZ with a b; subst a; exact ⟨D ++ [x], rfl⟩
      obtain ⟨Z', hZ'⟩ := hhd
      have hDx : (D ++ [x]).Nodup := (List.nodup_append.mp hI2.1).1
      have sg : seg K1 0 (D ++ [x]).tail x := by
        rw [hZ'] at hW1 hDx ⊢
        refine seg_cong hW1 hDx (fun z hz hzx => ?_)
        refine b1.2 0 z 17 (fun w => ?_)
        have hzm : z ∈ D ++ [x] := by rw [hZ']; exact hz
        have hzD : z ∈ D := (List.mem_append.mp hzm).elim id (fun q => absurd (List.mem_singleton.mp q) hzx)
        rcases List.mem_cons.mp w.2.2 with e | e
        · exact hzx e
        · exact (List.nodup_append.mp hn9).2.2 z hzD z (List.mem_cons_of_mem _ (List.mem_append_left _ e)) rfl
      have hW' : LWay K1 (D ++ [x]) (Tfan T x ++ r) := by
        cases hc : Tfan T x ++ r with
        | nil =>
          rw [hc] at c1
          have := seg_chS sg (r := []) c1
          rw [List.append_nil] at this
          exact this
        | cons z r' =>
          rw [hc] at c1
          refine ⟨?_, c1.2⟩
          have e9 : ((D ++ [x]) ++ [z]).tail = (D ++ [x]).tail ++ [z] := by rw [hZ']; rfl
          rw [e9]
          exact seg_snoc sg c1.1
      obtain ⟨S2, K2, e2, h2, b2, c2⟩ := ih m (D ++ [x]) (Tfan T x ++ r) K1 S1 h1 t1 k16' k15' hI2 (by simp only [List.length_append, List.length_cons, List.length_nil]; omega) (by omega) hW' ⟨Z' ++ (Tfan T x ++ r), by rw [hZ']; rfl⟩
      rw [show nI (D.length + 1) = nI (D ++ [x]).length by simp only [List.length_append, List.length_cons, List.length_nil], e2]
      have e8 : (D ++ [x]) ++ TordF T k (Tfan T x ++ r) = D ++ TordF T (k + 1) (x :: r) := by rw [List.append_assoc]; rfl
      rw [e8] at b2 c2
      refine ⟨S2, K2, rfl, h2, ?_, c2⟩
      refine (b1.wd (fun _ _ _ z => z) (fun k i j z => Or.inr ⟨z.1, z.2.1, ?_⟩)).tr b2
      rcases List.mem_cons.mp z.2.2 with e | e
      · rw [e]; exact hx.2
      · exact (Tsp_D hw ((Tfan_mem hw).mp e)).trans hx.2
theorem c_layOut_48 (hw : Tw T) : ∀ (d m k : Nat) (K : kS) (S : cS), KA A ex K S → KT T ex K → (∀ e, e < k → K.2 0 e 16 = ro 0 (Tsp T e)) → (∀ e, e < Tn T → K.2 0 e 15 = ro 0 (TH T e)) → k + d = Tn T → d < m → ∃ S' K', f_X10_layOut_48 (A 50 0) m (nI k) S = some S' ∧ KA A ex K' S' ∧ kB F3 (fun k i j => k = 0 ∧ (j = 16 ∨ (j = 17 ∧ TD T i = true))) K K' ∧ K16 T K' ∧ chS K' 0 (Tord T).tail := by
  have h30 := hw.n30
  intro d
  induction d with
  | zero =>
    intro m k K S h t k16 k15 hk hm
    obtain ⟨m, rfl⟩ : ∃ m', m = m' + 1 := ⟨m - 1, by omega⟩
    have hk : k = Tn T := by omega
    subst hk
    rw [f_X10_layOut_48, t.cnt h]
    simp only [qqb]
    rw [if_pos (nI_le (Nat.le_refl _) (by omega)), t.top h]
    simp only [qqb]
    have hn1 := hw.n1
    obtain ⟨S1, e1, h1⟩ := h.PR (k := 0) (i := 0) (j := 17) (t := 3) (t.E (by omega) (by decide)) rfl (by decide) none (fun r hr => by cases hr)
    have e1 : pR S (some (A 0 0)) 3 17 none = some S1 := e1
    rw [e1]
    simp only [qqb]
    have b1 : kB F3 (fun k i j => k = 0 ∧ j = 17 ∧ i = 0) K (kwR K 0 0 17 none) := (kB.rf K).R (by simp)
    have t1 := t.w17 (L := fun i => i = 0) b1
    have k1 : K16 T (kwR K 0 0 17 none) := K16.w (L := fun i => i = 0) k16 b1
    rw [t1.top h1]
    simp only [qqb]
    obtain ⟨S2, K2, e2, h2, b2, c2⟩ := c_layOut_96 (A := A) (ex := ex) hw 30 4000 [] [0] _ S1 h1 t1 k1 (fun e he => by rw [kwR_2, if_neg (by simp)]; exact k15 e he) (TI_0 hw) rfl (by omega) ⟨rfl, by show (kwR K 0 0 17 none).2 0 0 17 = none; rw [kwR_2, if_pos ⟨rfl, rfl, rfl⟩]⟩ ⟨[], rfl⟩
    refine ⟨S2, K2, e2, h2, ?_, ?_, c2⟩
    · refine (b1.wd (fun _ _ _ z => z) (fun k i j z => ⟨z.1, Or.inr ⟨z.2.1, by rw [z.2.2]; exact TD_0 hw⟩⟩)).tr (b2.wd (fun _ _ _ z => z) (fun k i j z => ?_))
      rcases z with z | z
      · exact ⟨z.1, Or.inr ⟨z.2.1, (Tord_is hw z.2.2).2⟩⟩
      · exact ⟨z.1, Or.inr z.2⟩
    · intro e he
      rw [b2.2 0 e 16 (by simp)]
      exact k1 e he
  | succ d ih =>
    intro m k K S h t k16 k15 hk hm
    obtain ⟨m, rfl⟩ : ∃ m', m = m' + 1 := ⟨m - 1, by omega⟩
    have hkn : k < Tn T := by omega
    rw [f_X10_layOut_48, t.cnt h]
    simp only [qqb]
    rw [if_neg (nI_ge hkn (by omega)), t.r10 h]
    simp only [qqb]
    rw [c_at hw t h hkn]
    simp only [qqb]
    rw [if_neg (fun z => by cases z)]
    rw [c_findShown hw t h hkn]
    simp only [qqb]
    obtain ⟨S1, e1, h1⟩ := h.PR (k := 0) (i := k) (j := 16) (t := 3) (t.E hkn (by decide)) rfl (by decide) (ro 0 (Tsp T k)) (fun r hr => by
      cases hq : Tsp T k with
      | none => rw [hq] at hr; cases hr
      | some q => rw [hq] at hr; cases hr; exact t.E (k := 0) (Tsp_cases hw hq).2.1 (Nat.zero_le _))
    rw [el_kp] at e1
    rw [e1]
    simp only [qqb]
    unfold f_X10_layOut_75
    rw [nI_1]
    have b1 : kB LI LR K (kwR K 0 k 16 (ro 0 (Tsp T k))) := (kB.rf K).R (by simp [LR])
    obtain ⟨S2, K2, e2, h2, b2, k2, c2⟩ := ih m (k + 1) _ S1 h1 (t.lay b1) (fun e he => by
      rw [kwR_2]
      by_cases hek : e = k
      · subst hek; rw [if_pos ⟨rfl, rfl, rfl⟩]
      · rw [if_neg (by omega)]; exact k16 e (by omega)) (fun e he => by rw [kwR_2, if_neg (by simp)]; exact k15 e he) (by omega) (by omega)
    exact ⟨S2, K2, e2, h2, (((kB.rf K).R (by simp)).tr b2), k2, c2⟩
def L17 (T : qqT) (K0 K : kS) (k : Nat) : Prop := (∀ e, e < k → LSe T K0 K e) ∧ K.1 50 0 2 = qqM (TD T) k ∧ (∀ e, k ≤ e → K.1 6 e 1 = K0.1 6 e 1 ∧ K.1 6 e 4 = K0.1 6 e 4 ∧ ∀ p, K.1 10 e p = K0.1 10 e p) ∧ kB LI LR K0 K ∧ (∀ e, K.2 0 e 17 = K0.2 0 e 17) ∧ K.1 50 0 3 = K0.1 50 0 3
theorem LSe_keep {K0 K K' : kS} {e k : Nat} (h : LSe T K0 K e) (hek : e ≠ k) (b : kB (LIe k) (LRe k) K K') : LSe T K0 K' e := by
  obtain ⟨h1, h2, h3, h4, h5⟩ := h
  refine ⟨?_, ?_, ?_, fun z => ?_, fun z => ?_⟩
  · rw [b.1 0 e 14 (by unfold LIe; omega)]; exact h1
  · rw [b.2 0 e 15 (by unfold LRe; omega)]; exact h2
  · rw [b.1 1 e 12 (by unfold LIe; omega)]; exact h3
  · rw [b.1 6 e 1 (by unfold LIe; omega), b.1 6 e 4 (by unfold LIe; omega)]
    exact ⟨(h4 z).1, (h4 z).2.1, fun p => by rw [b.1 10 e p (by unfold LIe; omega)]; exact (h4 z).2.2 p⟩
  · rw [b.1 6 e 1 (by unfold LIe; omega), b.1 6 e 4 (by unfold LIe; omega)]
    exact ⟨(h5 z).1, (h5 z).2.1, fun p hp => by rw [b.1 10 e p (by unfold LIe; omega)]; exact (h5 z).2.2 p hp⟩
theorem c_layOut_17 (hw : Tw T) {K0 : kS} : ∀ (d m k : Nat) (K : kS) (S : cS), KA A ex K S → KT T ex K → L17 T K0 K k → k + d = Tn T → d < m → ∃ S' K', f_X10_layOut_17 (A 50 0) m (nI k) S = some S' ∧ KA A ex K' S' ∧ kB LI LR K0 K' ∧ KL T K' ∧ K'.1 50 0 3 = K0.1 50 0 3 ∧ (∀ e, e < Tn T → LSk T K0 K' e) ∧ (∀ e, TD T e = false → K'.2 0 e 17 = K0.2 0 e 17) := by
  have h30 := hw.n30
  intro d
  induction d with
  | zero =>
    intro m k K S h t hL hk hm
    obtain ⟨m, rfl⟩ : ∃ m', m = m' + 1 := ⟨m - 1, by omega⟩
    have hk : k = Tn T := by omega
    subst hk
    rw [f_X10_layOut_17, t.cnt h]
    simp only [qqb]
    rw [if_pos (nI_le (Nat.le_refl _) (by omega)), show (0 : Int32) = nI 0 from rfl]
    obtain ⟨l1, l2, l3, l4, l5, l6⟩ := hL
    obtain ⟨S1, K1, e1, h1, b1, k1, c1⟩ := c_layOut_48 (A := A) (ex := ex) hw (Tn T) 4000 0 K S h t (fun e he => by omega) (fun e he => (l1 e he).2.1) (by omega) (by omega)
    refine ⟨S1, K1, e1, h1, l4.tr (b1.wd (fun _ _ _ z => z.elim) (fun k i j z => ⟨z.1, by omega⟩)), ⟨fun e he => ?_, ?_, c1⟩, ?_, fun e he => ?_, fun e he => ?_⟩
    · rw [b1.1 0 e 14 (fun z => z), b1.1 1 e 12 (fun z => z), b1.2 0 e 15 (by simp)]
      exact ⟨(l1 e he).1, (l1 e he).2.1, k1 e he, (l1 e he).2.2.1⟩
    · rw [b1.1 50 0 2 (fun z => z)]; exact l2
    · rw [b1.1 50 0 3 (fun z => z)]; exact l6
    · have := (l1 e he).2.2.2
      unfold LSk at this ⊢
      rw [b1.1 6 e 1 (fun z => z), b1.1 6 e 4 (fun z => z)]
      refine ⟨fun z => ⟨(this.1 z).1, (this.1 z).2.1, fun p => ?_⟩, fun z => ⟨(this.2 z).1, (this.2 z).2.1, fun p hp => ?_⟩⟩
      · rw [b1.1 10 e p (fun z => z)]; exact (this.1 z).2.2 p
      · rw [b1.1 10 e p (fun z => z)]; exact (this.2 z).2.2 p hp
    · rw [b1.2 0 e 17 (fun z => by have z2 := z.2; rw [he] at z2; simp at z2)]
      exact l5 e
  | succ d ih =>
    intro m k K S h t hL hk hm
    obtain ⟨m, rfl⟩ : ∃ m', m = m' + 1 := ⟨m - 1, by omega⟩
    have hkn : k < Tn T := by omega
    rw [f_X10_layOut_17, t.cnt h]
    simp only [qqb]
    rw [if_neg (nI_ge hkn (by omega)), t.r10 h]
    simp only [qqb]
    rw [c_at hw t h hkn]
    simp only [qqb]
    rw [if_neg (fun z => by cases z)]
    obtain ⟨S1, K1, e1, h1, b1, s1, d1⟩ := c_settle hw hkn h t
    rw [e1]
    simp only [qqb]
    unfold f_X10_layOut_40
    rw [nI_1]
    obtain ⟨l1, l2, l3, l4, l5, l6⟩ := hL
    have bL : kB LI LR K K1 := b1.wd (fun _ _ _ => LIe_I) (fun _ _ _ => LRe_R)
    have hLS : LSe T K0 K1 k := by
      obtain ⟨q1, q2, q3, q4, q5⟩ := s1
      have q9 := l3 k (Nat.le_refl _)
      exact ⟨q1, q2, q3, fun z => ⟨(q4 z).1.trans q9.1, (q4 z).2.1.trans q9.2.1, fun p => ((q4 z).2.2 p).trans (q9.2.2 p)⟩, q5⟩
    refine ih m (k + 1) K1 S1 h1 (t.lay bL) ⟨fun e he => ?_, ?_, fun e he => ?_, l4.tr bL, fun e => ?_, ?_⟩ (by omega) (by omega)
    · by_cases hek : e = k
      · rw [hek]; exact hLS
      · exact LSe_keep (l1 e (by omega)) hek b1
    · rw [d1, l2, qqM_s]
    · have q9 := l3 e (by omega)
      rw [b1.1 6 e 1 (by unfold LIe; omega), b1.1 6 e 4 (by unfold LIe; omega)]
      exact ⟨q9.1, q9.2.1, fun p => by rw [b1.1 10 e p (by unfold LIe; omega)]; exact q9.2.2 p⟩
    · rw [b1.2 0 e 17 (by unfold LRe; omega)]; exact l5 e
    · rw [b1.1 50 0 3 (by unfold LIe; omega)]; exact l6
theorem c_layOut (hw : Tw T) (h : KA A ex K S) (t : KT T ex K) : ∃ S' K', f_X10_layOut (A 50 0) S = some S' ∧ KA A ex K' S' ∧ kB LI LR K K' ∧ KL T K' ∧ K'.1 50 0 3 = K.1 50 0 3 + 1 ∧ (∀ e, e < Tn T → LSk T K K' e) ∧ (∀ e, TD T e = false → K'.2 0 e 17 = K.2 0 e 17) := by
  have h30 := hw.n30
  unfold f_X10_layOut
  rw [h.I 50 10 t.2.1 rfl]
  simp only [qqb]
  obtain ⟨S1, e1, h1⟩ := h.PI (k := 50) (i := 0) (j := 3) (t := 10) t.2.1 rfl (by decide) (K.1 50 0 3 + 1)
  rw [e1]
  simp only [qqb]
  obtain ⟨S2, e2, h2⟩ := h1.PI (k := 50) (i := 0) (j := 2) (t := 10) t.2.1 rfl (by decide) 0
  rw [e2]
  simp only [qqb]
  have b2 : kB LI LR K (kwI (kwI K 50 0 3 (K.1 50 0 3 + 1)) 50 0 2 0) := ((kB.rf K).I (by simp [LI])).I (by simp [LI])
  have t2 := t.lay b2
  rw [show (0 : Int32) = nI 0 from rfl] at *
  obtain ⟨S3, K3, e3, h3, b3, l3, v3, s3, a3⟩ := c_layOut_17 (A := A) (ex := ex) (K0 := kwI (kwI K 50 0 3 (K.1 50 0 3 + 1)) 50 0 2 (nI 0)) hw (Tn T) 4000 0 _ S2 h2 t2 ⟨fun e he => by omega, by rw [kwI_1, if_pos ⟨rfl, rfl, rfl⟩]; rfl, fun e he => ⟨rfl, rfl, fun p => rfl⟩, kB.rf _, fun e => rfl, rfl⟩ (by omega) (by omega)
  refine ⟨S3, K3, e3, h3, b2.tr b3, l3, ?_, fun e he => ?_, fun e he => ?_⟩
  · rw [v3, kwI_1, if_neg (by simp), kwI_1, if_pos ⟨rfl, rfl, rfl⟩]
  · have := s3 e he
    unfold LSk at this ⊢
    simp only [kwI_1] at this
    simpa using this
  · rw [a3 e he]; rfl
end LW
