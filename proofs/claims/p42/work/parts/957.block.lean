section BLK
variable {T : qqT} {G : qqG} {L : qqL} {A : kA} {ex : Nat → Nat → Prop} {K K' : kS} {S S' : cS} {σ σ' : mS} {v v' nw k : Nat}
def blk (T : qqT) (G : qqG) (x : Int32) (a : Nat) : Prop := (a < Gr G ∧ x = nI a) ∨ ∃ e, e < Tn T ∧ a = 40 + e ∧ x = nI (100 + e)
theorem blk.vr {x : Int32} {a : Nat} (h : blk T G x a) : VR T G a := by
  rcases h with ⟨h, -⟩ | ⟨e, he, rfl, -⟩
  · exact Or.inl h
  · exact Or.inr ⟨by omega, by omega⟩
theorem sub100 {x : Int32} {e : Nat} (h : x - 100 = nI e) : x = nI (100 + e) := by
  have : x = nI e + 100 := by rw [← h, Int32.sub_add_cancel]
  rw [this, show (100 : Int32) = nI 100 from rfl, nI_add, Nat.add_comm]
theorem blk_cases (T : qqT) (G : qqG) (h30 : Tn T ≤ 30) (h40 : Gr G ≤ 40) (x : Int32) : (∃ a, blk T G x a) ∨ (¬ (0 ≤ x ∧ x < nI (Gr G)) ∧ ¬ (0 ≤ x - 100 ∧ x - 100 < nI (Tn T))) := by
  rcases ix_cases x (n := Gr G) (by omega) with ⟨r, hr, e⟩ | h1
  · exact Or.inl ⟨r, Or.inl ⟨hr, e⟩⟩
  · rcases ix_cases (x - 100) (n := Tn T) (by omega) with ⟨e, he, h⟩ | h2
    · exact Or.inl ⟨40 + e, Or.inr ⟨e, he, rfl, sub100 h⟩⟩
    · exact Or.inr ⟨h1, h2⟩
theorem c_blockY (hw : Tw T) (j : J0 T G L ex K σ v) (hA : KA A ex K S) {x : Int32} {a : Nat} (h : blk T G x a) : f_X11_blockAt (A 49 0) x S = some (.inr (some (bka A a)), S) := by
  have h30 := hw.n30
  have h40 := j.2.1.1.r40
  have q := j.1.1
  unfold f_X11_blockAt f_X11_blockAt_25
  rw [q.2.1.r11 hA, qqx, qqx]
  rcases h with ⟨hr, rfl⟩ | ⟨e, he, rfl, rfl⟩
  · rw [if_neg (show ¬ (100 : Int32) ≤ nI a from nI_ge (b := 100) (by omega) (by decide)), c_ruleY j hA hr, qqx, bka_lt (by omega)]
    rfl
  · rw [if_pos (show (100 : Int32) ≤ nI (100 + e) from (nI_leE (a := 100) (by decide) (by omega)).mpr (by omega)), show (100 : Int32) = nI 100 from rfl, pk_sub (by omega), show 100 + e - 100 = e by omega, c_elementAt hw q hA he, qqx, bka_ge (by omega), show 40 + e - 40 = e by omega]
    show (gR S (some (A 0 e)) 3 18).bind _ = _
    rw [hA.R 0 3 (q.1.E he (by decide)) rfl, (q.1.1 e he).2.2.2.2.2.2.2.2.2.2.2.1]
    rfl
theorem c_blockN (hw : Tw T) (j : J0 T G L ex K σ v) (hA : KA A ex K S) {x : Int32} (h1 : ¬ (0 ≤ x ∧ x < nI (Gr G))) (h2 : ¬ (0 ≤ x - 100 ∧ x - 100 < nI (Tn T))) : f_X11_blockAt (A 49 0) x S = some (.inl 2, S) := by
  have q := j.1.1
  unfold f_X11_blockAt
  rw [q.2.1.r11 hA, qqx, qqx]
  by_cases c : (100 : Int32) ≤ x
  · rw [if_pos c, c_elementN hw q hA h2]; rfl
  · rw [if_neg c, c_ruleN j hA h1]; rfl
theorem r_rowY (hw : Tw T) (j : J0 T G L ex K σ v) {x : Int32} {a : Nat} (h : blk T G x a) : f_rowOf x σ = some (nI (16 * a)) := by
  have h30 := hw.n30
  have h40 := j.2.1.1.r40
  unfold f_rowOf f_rowOf_42 f_rowOf_43
  rw [r_isRule j, qqx]
  rcases h with ⟨hr, rfl⟩ | ⟨e, he, rfl, rfl⟩
  · rw [if_dt (nI_inn hr (by omega)), show (16 : Int32) = nI 16 from rfl, pk_mul]
  · rw [if_df (fun z => by have := (nI_ltE (by omega) (by omega)).mp z.2; omega), if_neg (show ¬ nI (100 + e) < 100 from fun z => by have := (nI_ltE (b := 100) (by omega) (by decide)).mp z; omega), show (100 : Int32) = nI 100 from rfl, show (60 : Int32) = nI 60 from rfl, show (16 : Int32) = nI 16 from rfl, pk_sub (by omega), pk_sub (by omega), show 100 + e - 100 = e by omega, r_isElement j.1.2.2.2 hw, qqx, if_dt (nI_inn he (by omega)), pk_mul, show 100 + e - 60 = 40 + e by omega]
theorem r_rowN (hw : Tw T) (j : J0 T G L ex K σ v) {x : Int32} (h1 : ¬ (0 ≤ x ∧ x < nI (Gr G))) (h2 : ¬ (0 ≤ x - 100 ∧ x - 100 < nI (Tn T))) : f_rowOf x σ = some (-1) := by
  unfold f_rowOf f_rowOf_42 f_rowOf_43
  rw [r_isRule j, qqx, if_df h1, r_isElement j.1.2.2.2 hw, qqx, if_df h2]
  by_cases c : x < 100
  · rw [if_pos c]
  · rw [if_neg c]
end BLK
