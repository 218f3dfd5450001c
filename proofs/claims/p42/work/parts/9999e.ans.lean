section AN
variable {mm : Nat × Nat × Nat} {hl dr : Bool} {T : qqT} {G : qqG} {V : lwS} {σ : mS} {e p : Nat}
/-- hits over the order, from what the reference knows -/
theorem r_oh (J : J1 T G σ) : ∃ τ1 τ2, f_ordered σ = some τ1 ∧ f_hits τ1 = some τ2 ∧ sB [73, 74, 75, 77, 78, 80] [71, 72, 76, 79] σ τ2 ∧ RS T G τ2 ∧ rowS 75 76 τ2 (Tord T) ∧ hitS T G τ2 := by
  obtain ⟨⟨hw, hr, hc⟩, ⟨hs, hs30, h26, h30s⟩, ⟨hmk, h48d⟩, h25, ⟨hdv, han, hnw, h70⟩, hrow, hfr⟩ := id J
  obtain ⟨τ1, e1, b1, o1, p1⟩ := r_ordered hw hr
  have rt1 : RT T τ1 := hr.sB b1 (by decide) (by decide)
  have rc1 : RC T G τ1 := hc.sB b1 (by decide) (by decide)
  have eq1 : ∀ f, f ∈ [14, 15, 16, 17, 18, 19, 21, 22] → τ1.1 f = σ.1 f := fun f hf => b1.1 f (by revert f; decide)
  obtain ⟨τ2, e2, b2', hit⟩ := r_hits hw rt1 rc1 (fun s hs' => by
    have r := hs s hs'
    obtain ⟨⟨m, r1, r2, r3, r4⟩, r5, r6, r7⟩ := r
    have hh : ∀ k, qHs τ1 s k = qHs σ s k := fun k => by unfold qHs nTt; rw [eq1 16 (by decide), eq1 17 (by decide)]
    have hc : nC τ1 s = nC σ s := by unfold nC; rw [eq1 14 (by decide)]
    refine ⟨⟨m, r1, r2, by rw [eq1 14 (by decide)]; exact r3, fun k hk => ?_⟩, by rw [eq1 21 (by decide)]; exact r5, by rw [eq1 22 (by decide)]; exact r6, fun z k hk => ?_⟩
    · obtain ⟨q, q1, q2, q3, q4⟩ := r4 k hk
      refine ⟨q, q1, by rw [eq1 16 (by decide)]; exact q2, by rw [eq1 15 (by decide)]; exact q3, fun t t2 => ?_⟩
      have := q4 t t2
      unfold RTs at this ⊢
      rw [eq1 17 (by decide), eq1 18 (by decide), eq1 19 (by decide), eq1 21 (by decide), eq1 22 (by decide)]
      exact this
    · rw [hh]
      rw [eq1 22 (by decide)] at z
      rw [hc] at hk
      exact r7 z k hk) ((b1.2 26 (by decide)).trans h26)
  have b12 : sB [73, 74, 75, 77, 78, 80] [71, 72, 76, 79] σ τ2 := (b1.wd (by decide) (by decide)).tr (b2'.wd (by decide) (by decide))
  exact ⟨τ1, τ2, e1, e2, b12, ⟨rt1.sB b2' (by decide) (by decide), rc1.sB b2' (by decide) (by decide), fun x hx => by rw [b2'.1 77 (by decide)]; exact p1 x hx⟩, o1.sB b2' (by decide) (by decide), hit⟩
theorem g_shownParent (J : J1 T G σ) (he : e < Tn T) : f_shownParent (nI e) σ = some (qqO (Tsp T e), sf σ 81 0) := by
  have h30 := J.1.1.n30
  unfold f_shownParent f_shownParent_14 f_shownParent_29
  rw [r_isElement J.1.2.1 J.1.1, qqx, if_dt (nI_inn he (by omega)), r_holds0, qqx, if_pos rfl, r_shown J.1.1 (J.sf81 0).1.2.1 he, qqx]
theorem g_isIn (J : J1 T G σ) (he : e < Tn T) : f_isIn (nI e) σ = some (b2 (TD T e), sf σ 81 0) := by
  have h30 := J.1.1.n30
  unfold f_isIn f_isIn_14 f_isIn_32 f_isIn_33
  rw [r_isElement J.1.2.1 J.1.1, qqx, if_dt (nI_inn he (by omega)), r_holds0, qqx, if_pos rfl, r_inDoc J.1.1 (J.sf81 0).1.2.1 he, qqx]
  cases hd : TD T e with
  | true => rfl
  | false => rfl
theorem g_weight (J : J1 T G σ) (he : e < Gs G) : f_weight (nI e) σ = some (σ.1 20 e, sf σ 81 0) := by
  have h30 := J.2.1.2.2.2
  unfold f_weight f_weight_14 f_weight_30 f_isSel
  rw [J.2.1.2.2.1, r_in0 (nI e) (n := Gs G) (by omega) rfl, qqx, rz_b2, qqx, if_dt (nI_inn he (by omega)), r_holds0, qqx, if_pos rfl, rd_20 (by omega), qqx]
  rfl
theorem g_allThat (J : J1 T G σ) (he : e < Gs G) : ∃ σ', f_allThat (nI e) (-1) σ = some (qMs T (sf σ 81 0) none e, σ') ∧ σ'.2 81 = 0 := by
  have h30 := J.2.1.2.2.2
  have J0 := J.sf81 0
  obtain ⟨τ, e1, b, hm⟩ := r_look (h := none) J0.1.1 J0.1.2.1 (fun q z => by cases z) J0.2.1.1 J0.2.1.2.2.1 h30
  refine ⟨τ, ?_, (b.2 81 (by decide)).trans rfl⟩
  unfold f_allThat f_allThat_22 f_isSel
  rw [J.2.1.2.2.1, r_in0 (nI e) (n := Gs G) (by omega) rfl, qqx, rz_b2, qqx, if_dt (nI_inn he (by omega)), show (-1 : Int32) = qqO none from rfl, r_isTreeY J.1.1 J.1.2.1 (fun q z => by cases z), qqx, if_neg (by decide), r_holds0, qqx, if_pos rfl, e1, qqx, rd_73 (by omega), qqx, hm e he]
theorem g_valueAnew (J : J1 T G σ) (he : e < Tn T) (hd : TD T e = true) (hp : p < 15) : ∃ τ2 τ, f_valueAnew (nI e) (nI p) σ = some (TV τ 1 e p, τ) ∧ τ.2 81 = 0 ∧ AI T G τ2 (Tord T) τ ∧ sB [73, 74, 75, 77, 78, 80] [71, 72, 76, 79] (sf σ 81 0) τ2 := by
  have h30 := J.1.1.n30
  have J0 := J.sf81 0
  obtain ⟨τ1, τ2, e1, e2, b, rs, row, hit⟩ := r_oh J0
  obtain ⟨τ, e3, ai⟩ := an_run J.1.1 (nI e) (nI p) (σ0 := τ2) (Tord T) [] 4000 τ2 ⟨⟨rs, J0.2.2.2.2.1.1.cg9 (fun f hf => b.1 f (by revert f; decide))⟩, row, hit, rA1.rf _ _, (fun x hx => by cases hx), (fun x hx => by cases hx)⟩ rfl (by have := Tord_len J.1.1; omega)
  refine ⟨τ2, τ, ?_, (ai.2.2.2.1.2.2.2.2 81 (by decide)).trans ((b.2 81 (by decide)).trans rfl), ai, b⟩
  unfold f_valueAnew f_valueAnew_41
  rw [r_isElement J.1.2.1 J.1.1, qqx, if_dt (nI_inn he (by omega)), r_in0 (nI p) (n := 15) (by decide) (by decide), qqx, if_dt (nI_inn hp (by decide)), r_inDoc J.1.1 J.1.2.1 he, qqx, hd, if_neg (by decide), r_holds0, qqx, if_pos rfl, e1, qqx, e2, qqx]
  have e3' : f_valueAnew_59 4000 (nI e) (nI p) 0 τ2 = _ := e3
  rw [e3', show (1 : Int32) = nI 1 from rfl, r_told (by decide) (by omega) hp, qqx]
end AN
