theorem ag_ok {T : qqT} {G : qqG} {τ : mS} {e p r : Nat} (hw : Tw T) (rs : RS T G τ) (he : e < Tn T) (hp : p < 15) (hr : r < Gr G) : agQ e p r τ := by
  obtain ⟨rt, rc, sh⟩ := id rs
  have h30 := hw.n30
  have h40 := rc.r40
  intro v3 v4 v5 v6 v7 v8 v9 v10 v11 h3 n3 h4 h5 n5 h6 n6 h7 h8 n8 h9 n9 h10 n10 h11
  have ei : (16 : Int32) * nI r + nI p = nI (16 * r + p) := by rw [show (16 : Int32) = nI 16 from rfl, pk_mul, nI_add]
  rw [ei] at h3 n10 h11
  rw [rd_37 (by omega)] at h3
  have ld : Ldc τ p r = true := by
    unfold Ldc
    refine decide_eq_true ?_
    have := Option.some.inj h3
    rw [this]
    exact Int32.not_lt.mp n3
  rw [r_stands hw rt rc hr] at h6
  have st : Lst T G τ r = true := by
    cases hs : Lst T G τ r with
    | true => rfl
    | false => rw [hs] at h6; exact absurd (Option.some.inj h6).symm n6
  rw [show (0 : Int32) = nI 0 from rfl, show nI 0 = b2 false from rfl] at h9
  have h9 : f_fits (nI r) (nI e) (nI 0) (b2 false) τ = some v9 := h9
  rw [r_fits hw sh (by decide) he (by omega) false] at h9
  have ft : Lfit τ (if false then none else hsz T τ 0 e) r = true := by
    cases hs : Lfit τ (if false then none else hsz T τ 0 e) r with
    | true => rfl
    | false => rw [hs] at h9; exact absurd (Option.some.inj h9).symm n9
  rw [rd_74 (by omega)] at h7
  have h7 := Option.some.inj h7
  rw [← h7, r_bit _ (by omega)] at h8
  have bt9 : bt (τ.1 74 r) e = true := by
    cases hs : bt (τ.1 74 r) e with
    | true => rfl
    | false => rw [hs] at h8; exact absurd (Option.some.inj h8).symm n8
  have lor : Lor G τ r < 3 := by
    unfold Lor
    rw [if_pos (by omega)]
    obtain ⟨n, hn, e1⟩ := (rc.2.2.1 (Gsf G r) (rc.f hr).2).2.2.1
    rw [e1]
    exact nI_lt (b := 3) hn (by decide)
  have cd : cnd T G τ (if false then none else hsz T τ 0 e) e p 3 (Gr G) r := Or.inr ⟨hr, by
    unfold Lap
    rw [ld, decide_eq_true lor, bt9, st, ft]
    rfl⟩
  obtain ⟨w, w1, w2, w3⟩ := win_all (im_ok rc) (by omega) h40 (Gr G) (Nat.le_refl _) r cd
  have h10 : f_winner (nI e) (nI p) 3 (nI 0) (b2 false) τ = some v10 := h10
  rw [r_winner hw rt rc sh (by decide) he hp false] at h10
  unfold Lwin at h10
  rw [w1] at h10
  have h10 : nI (16 * w + p) = v10 := Option.some.inj h10
  rcases w3 with rfl | w3
  · exact absurd h10.symm n10
  · have vw : VR T G w := by
      rcases w2 with w2 | w2
      · exact Or.inr ⟨by omega, by omega⟩
      · exact Or.inl w2
    rw [← h10, r_against hw rt rc vw (Or.inl hr) (by omega)] at h11
    have h11 := Option.some.inj h11
    rw [← h11]
    exact agS_pos w3
theorem a_why2 {mm : Nat × Nat × Nat} {hl dr : Bool} {T : qqT} {G : qqG} {V : lwS} {e p r : Nat} (hk : V.2.1 < 60000) (h : LQ mm hl dr T G V) (nd : ndB T V.1 = false) (he : e < Tn T) (hd : TD T e = true) (hp : p < 15) (hr : r < Gr G) : ∃ v τ, oC (f_why (nI e) (nI p) (nI r)) V = some (v, (τ, V.2.1 + 1, V.2.2)) ∧ ((0 : Int32) ≤ v ∧ v ≤ 11) ∧ LQ mm hl dr T G (τ, V.2.1 + 1, V.2.2) ∧ scE V.1 τ := a_why hk h nd he hd hp hr (fun τ e1 => by
  obtain ⟨⟨S, L, A, ex, K, v, nw, w⟩, q⟩ := id h
  obtain ⟨S', K', σ', v', -, e2, -, -, rs, -⟩ := w.read hk
  rw [e1] at e2
  cases e2
  exact ag_ok h.j1.1.1 rs he hp hr)
