section LV
variable {T : qqT} {A : kA} {ex : Nat → Nat → Prop} {K : kS} {S : cS}
abbrev W17 (x : Nat) (F : List Nat) : Nat → Nat → Nat → Prop := fun k i j => k = 0 ∧ j = 17 ∧ i ∈ x :: F
abbrev F3 : Nat → Nat → Nat → Prop := fun _ _ _ => False
theorem K16.w {K' : kS} {L : Nat → Prop} (k : K16 T K) (b : kB F3 (fun k i j => k = 0 ∧ j = 17 ∧ L i) K K') : K16 T K' := fun e he => by rw [b.2 0 e 16 (fun z => by simp at z)]; exact k e he
theorem c_lineUp_32 (hw : Tw T) {x a : Nat} {F r : List Nat} {K0 : kS} (hx : x < Tn T) (h : KA A ex K S) (t : KT T ex K) (k16 : K16 T K) (s0 : seg K x F a) (hc : chS K a (Tfl T x (Tt T x) ++ (Tfl T x (Tc T x) ++ r)) ∨ True) (hc0 : chS K a r) (hF : ∀ y ∈ F, y < Tn T) (hn : (x :: (F ++ (Tfl T x (Tt T x) ++ (Tfl T x (Tc T x) ++ r)))).Nodup) (b0 : kB F3 (W17 x F) K0 K) : ∃ S' K', f_X10_lineUp_32 (A 50 0) (some (A 0 x)) (some (A 0 a)) S = some S' ∧ KA A ex K' S' ∧ kB F3 (W17 x (F ++ (Tfl T x (Tt T x) ++ Tfl T x (Tc T x)))) K0 K' ∧ chS K' x (F ++ (Tfl T x (Tt T x) ++ (Tfl T x (Tc T x) ++ r))) := by
  have h30 := hw.n30
  have ha : a < Tn T := seg_lt s0 hx hF
  have hn1 := List.nodup_append.mp (show (x :: F ++ (Tfl T x (Tt T x) ++ (Tfl T x (Tc T x) ++ r))).Nodup from hn)
  have hsub : (a :: (Tfl T x (Tt T x) ++ (Tfl T x (Tc T x) ++ r))).Nodup := List.nodup_cons.mpr ⟨fun hm => hn1.2.2 a (seg_last s0) a hm rfl, hn1.2.1⟩
  have hsub2 : (a :: (Tfl T x (Tt T x) ++ r)).Nodup := by
    rw [List.nodup_cons] at hsub ⊢
    obtain ⟨q1, q2⟩ := hsub
    have q3 := List.nodup_append.mp q2
    refine ⟨fun hm => q1 ?_, List.nodup_append.mpr ⟨q3.1, (List.nodup_append.mp q3.2.1).2.1, fun u hu v hv => q3.2.2 u hu v (List.mem_append_right _ hv)⟩⟩
    rcases List.mem_append.mp hm with hm | hm
    · exact List.mem_append_left _ hm
    · exact List.mem_append_right _ (List.mem_append_right _ hm)
  unfold f_X10_lineUp_32
  rw [t.g11 h hx]
  simp only [qqb]
  rw [t.r10 h]
  simp only [qqb]
  obtain ⟨S1, K1, b, e1, h1, b1, s1, c1⟩ := c_lineUpShown hw hx h t k16 (fun y hy => (hw.tlt hy).1) (sibL_t hw x) (by have := hw.tlen x; omega) ha hc0 hsub2
  rw [e1]
  simp only [qqb]
  have t1 := t.w17 b1
  have k1 := k16.w b1
  rw [t1.g10 h1 hx]
  simp only [qqb]
  rw [t1.r10 h1]
  simp only [qqb]
  have hb : b < Tn T := seg_lt s1 ha (Tfl_lt (fun y hy => (hw.tlt hy).1))
  have q9 := List.nodup_append.mp (show (a :: Tfl T x (Tt T x) ++ (Tfl T x (Tc T x) ++ r)).Nodup from hsub)
  have hsub3 : (b :: (Tfl T x (Tc T x) ++ r)).Nodup := List.nodup_cons.mpr ⟨fun hm => q9.2.2 b (seg_last s1) b hm rfl, q9.2.1⟩
  obtain ⟨S2, K2, d, e2, h2, b2, s2, c2⟩ := c_lineUpShown hw hx h1 t1 k1 (fun y hy => (hw.clt hy).1) (sibL_c hw x) (by have := hw.clen x; omega) hb c1 hsub3
  rw [e2]
  refine ⟨S2, K2, rfl, h2, ?_, ?_⟩
  · refine (b0.wd (fun _ _ _ z => z) (fun k i j z => ?_)).tr ((b1.wd (fun _ _ _ z => z) (fun k i j z => ?_)).tr (b2.wd (fun _ _ _ z => z) (fun k i j z => ?_)))
    · exact ⟨z.1, z.2.1, (List.mem_cons.mp z.2.2).elim (fun e => by rw [e]; exact List.mem_cons_self) (fun w => List.mem_cons_of_mem _ (List.mem_append_left _ w))⟩
    · refine ⟨z.1, z.2.1, (List.mem_cons.mp z.2.2).elim (fun e => ?_) (fun w => List.mem_cons_of_mem _ (List.mem_append_right _ (List.mem_append_left _ w)))⟩
      rw [e]
      exact (List.mem_cons.mp (seg_last s0)).elim (fun e => by rw [e]; exact List.mem_cons_self) (fun w => List.mem_cons_of_mem _ (List.mem_append_left _ w))
    · refine ⟨z.1, z.2.1, (List.mem_cons.mp z.2.2).elim (fun e => ?_) (fun w => List.mem_cons_of_mem _ (List.mem_append_right _ (List.mem_append_right _ w)))⟩
      rw [e]
      rcases List.mem_cons.mp (seg_last s1) with e | w
      · rw [e]
        exact (List.mem_cons.mp (seg_last s0)).elim (fun e => by rw [e]; exact List.mem_cons_self) (fun w => List.mem_cons_of_mem _ (List.mem_append_left _ w))
      · exact List.mem_cons_of_mem _ (List.mem_append_right _ (List.mem_append_left _ w))
  · have z1 : chS K2 a (Tfl T x (Tt T x) ++ (Tfl T x (Tc T x) ++ r)) := seg_two (L := fun _ => True) s1 (seg_chS s2 c2) hsub (b2.wd (fun _ _ _ z => z) (fun _ _ _ z => z))
    have hxF : (x :: F).Nodup := hn1.1
    refine seg_chS (seg_cong s0 hxF (fun z hz hza => ?_)) z1
    have z2 : ∀ w, w ∈ a :: Tfl T x (Tt T x) → z ≠ w := by
      intro w hw e
      subst e
      rcases List.mem_cons.mp hw with e | e
      · exact hza e
      · exact hn1.2.2 z hz z (List.mem_append_left _ e) rfl
    have z3 : z ∉ b :: Tfl T x (Tc T x) := by
      intro hm
      rcases List.mem_cons.mp hm with e | e
      · exact z2 b (seg_last s1) e
      · exact hn1.2.2 z hz z (List.mem_append_right _ (List.mem_append_left _ e)) rfl
    rw [b2.2 0 z 17 (fun w => z3 w.2.2), b1.2 0 z 17 (fun w => z2 z w.2.2 rfl)]
theorem c_lineUp (hw : Tw T) {x : Nat} {r : List Nat} (hx : x < Tn T) (h : KA A ex K S) (t : KT T ex K) (k16 : K16 T K) (k15 : K.2 0 x 15 = ro 0 (TH T x)) (hc : chS K x r) (hn : (x :: (Tfan T x ++ r)).Nodup) : ∃ S' K', f_X10_lineUp (A 50 0) (some (A 0 x)) S = some S' ∧ KA A ex K' S' ∧ kB F3 (W17 x (Tfan T x)) K K' ∧ chS K' x (Tfan T x ++ r) := by
  have h30 := hw.n30
  have e0 : Tfan T x ++ r = Tfl T x (Tfs T x) ++ (Tfl T x (Tt T x) ++ (Tfl T x (Tc T x) ++ r)) := by unfold Tfan; simp
  rw [e0] at hn ⊢
  have go : Tfs T x = [] → ∃ S' K', f_X10_lineUp_32 (A 50 0) (some (A 0 x)) (some (A 0 x)) S = some S' ∧ KA A ex K' S' ∧ kB F3 (W17 x (Tfan T x)) K K' ∧ chS K' x (Tfl T x (Tfs T x) ++ (Tfl T x (Tt T x) ++ (Tfl T x (Tc T x) ++ r))) := by
    intro he
    rw [he] at hn ⊢
    have e1 : Tfan T x = [] ++ (Tfl T x (Tt T x) ++ Tfl T x (Tc T x)) := by unfold Tfan; rw [he]; rfl
    rw [e1]
    exact c_lineUp_32 (F := []) (a := x) hw hx h t k16 rfl (Or.inr trivial) hc (fun y hy => by cases hy) hn (kB.rf K)
  unfold f_X10_lineUp
  rw [h.R 0 3 (t.E hx (by decide)) rfl, k15, el_kp]
  simp only [qqb]
  cases hq : TH T x with
  | none =>
    rw [if_pos (el_none A)]
    exact go (by unfold Tfs; rw [hq])
  | some q =>
    have hq9 := (TH_lt hw hq).1
    obtain ⟨v, hv, hk⟩ := t.gk h hx
    rw [if_neg (fun z => by cases z), hv]
    simp only [qqb]
    by_cases h7 : v = nI 7
    · have hk7 := hk.mp h7
      have efs : Tfs T x = Tc T q := by
        unfold Tfs
        rw [hq]
        show (if Tk T x = true then Tc T q else []) = Tc T q
        rw [if_pos hk7]
      rw [if_pos (show v = (7 : Int32) from h7), el_some, t.g10 h hq9]
      simp only [qqb]
      rw [t.r10 h]
      simp only [qqb]
      rw [efs] at hn ⊢
      have hn1 := List.nodup_append.mp (show (x :: Tfl T x (Tc T q) ++ (Tfl T x (Tt T x) ++ (Tfl T x (Tc T x) ++ r))).Nodup from hn)
      have hn2 : (x :: (Tfl T x (Tc T q) ++ r)).Nodup := by
        show (x :: Tfl T x (Tc T q) ++ r).Nodup
        have q2 := List.nodup_append.mp hn1.2.1
        have q3 := List.nodup_append.mp q2.2.1
        exact List.nodup_append.mpr ⟨hn1.1, q3.2.1, fun u hu v hv => hn1.2.2 u hu v (List.mem_append_right _ (List.mem_append_right _ hv))⟩
      obtain ⟨S1, K1, b, e1, h1, b1, s1, c1⟩ := c_lineUpShown hw hx h t k16 (fun y hy => (hw.clt hy).1) (sibL_c hw q) (by have := hw.clen q; omega) hx hc hn2
      rw [e1]
      simp only [qqb]
      have e1 : Tfan T x = Tfl T x (Tc T q) ++ (Tfl T x (Tt T x) ++ Tfl T x (Tc T x)) := by unfold Tfan; rw [efs]
      rw [e1]
      exact c_lineUp_32 hw hx h1 (t.w17 b1) (k16.w b1) s1 (Or.inr trivial) c1 (Tfl_lt (fun y hy => (hw.clt hy).1)) hn b1
    · rw [if_neg (show ¬ v = (7 : Int32) from h7)]
      refine go ?_
      unfold Tfs
      rw [hq]
      show (if Tk T x = true then Tc T q else []) = []
      rw [if_neg (fun z => h7 (hk.mpr z))]
end LV
