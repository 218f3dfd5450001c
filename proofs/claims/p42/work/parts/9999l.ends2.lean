section EN2
variable {mm : Nat × Nat × Nat} {hl dr : Bool} {T : qqT} {G : qqG} {V : lwS} {σ : mS} {e p k r : Nat}
theorem no_U {g : mS → Option mS} (hk : V.2.1 < 60000) (h : LQ mm hl dr T G V) {P : qqT → qqG → mS → Prop} (t : stU g mm hl dr mm hl dr T G P V) {y : Int32} (hy : y ≠ 0) (e : g V.1 = some (sf V.1 81 y)) : oU g V = some ((y, 0), (sf V.1 81 y, V.2.1 + 1, V.2.2)) ∧ LQ mm hl dr T G (sf V.1 81 y, V.2.1 + 1, V.2.2) := by
  obtain ⟨σ', e1, e2, s⟩ := t
  rw [e] at e1
  cases e1
  rw [sf_s] at e2
  refine ⟨e2, ?_⟩
  rcases s with ⟨y', hy', e3, l⟩ | ⟨z, -⟩
  · exact l
  · rw [sf_s] at z; exact absurd z hy
theorem z_put (hk : V.2.1 < 60000) (h : LQ mm hl dr T G V) (hln : (Tc T 0).length < 2 ^ 31) : f_L_puts 0 0 0 V = some (-4, (sf V.1 81 2, V.2.1 + 1, V.2.2)) ∧ LQ mm hl dr T G (sf V.1 81 2, V.2.1 + 1, V.2.2) := by
  have J := h.j1
  have h1' := J.1.1.n1
  have h30 := J.1.1.n30
  have i0 : (0 : Int32) ≤ 0 ∧ (0 : Int32) < nI (Tn T) := nI_inn (e := 0) (by omega) (by omega)
  obtain ⟨h1, h2⟩ := no_U hk h (t_put hk h 0 0 0) (y := 2) (by decide) (by
    unfold f_put
    rw [r_isElement J.1.2.1 J.1.1, qqx, if_dt i0, qqx, if_dt i0, show rd V.1 10 (0 : Int32) = some (V.1.1 10 0) from rd_10 (i := 0) (by omega), qqx, J.1.2.1.2.2.2.2.1 0 (by omega), r_in, qqx, if_dt (⟨Int32.le_refl _, Int32.not_lt.mp (nI_pos hln)⟩)]
    unfold f_put_36 f_put_65 f_put_70 f_put_171 f_loose f_loose_26 f_loose_27
    rw [if_neg (by decide), if_pos rfl, show rz 0 = some 0 from rfl, qqx, if_pos rfl, r_holds2, qqx]
    rfl)
  refine ⟨?_, h2⟩
  unfold f_L_puts oM
  rw [h1]
  rfl
theorem z_test (hk : V.2.1 < 60000) (h : LQ mm hl false T G V) : f_L_tests 10 0 0 V = some (-3, (sf V.1 81 1, V.2.1 + 1, V.2.2)) ∧ LQ mm hl false T G (sf V.1 81 1, V.2.1 + 1, V.2.2) := by
  obtain ⟨h1, h2⟩ := no_R hk h (t_test hk h 10 0 0 (dr' := false) (fun _ => ⟨by decide, by decide⟩)) (y := 1) (by decide) (by
    obtain ⟨⟨S, L, A, ex, K, v, nw, w⟩, q⟩ := id h
    obtain ⟨kk, c, hkk, hc, hc4, hk4, h14, h16, d⟩ := drf w.2.2.2
    rw [r_testN (by decide), r_180n hk4 h14 hc4 h16 (by decide)])
  refine ⟨?_, h2⟩
  unfold f_L_tests oM
  rw [h1]
  rfl
end EN2
