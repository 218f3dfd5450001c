section ENT
variable {T : qqT} {G : qqG} {L : qqL} {A : kA} {ex : Nat → Nat → Prop} {K K' : kS} {S S' : cS} {σ σ' : mS} {v v' nw k : Nat}
theorem blkR (j : J0 T G L ex K σ v) {a : Nat} (ha : VR T G a) : ∀ t, 1 ≤ t → t ≤ 4 → ex ((bkr a).1 + t) (bkr a).2 ∧ K.2 (bkr a).1 (bkr a).2 (7 + t) = some ((bkr a).1 + t, (bkr a).2) ∧ kT ((bkr a).1 + t) = (20, 15) := by
  have h40 := j.2.1.1.r40
  obtain ⟨-, c2, c3, -, -⟩ := j.2.1.2.1
  have tt : ∀ t, 1 ≤ t → t ≤ 4 → t = 1 ∨ t = 2 ∨ t = 3 ∨ t = 4 := fun t _ _ => by omega
  rcases ha with hr | ⟨h1, h2⟩
  · rw [bkr_lt (by omega)]
    obtain ⟨x, -, -, -, -, -, -, k8, k9, k10, k11, -⟩ := c2 a hr
    intro t t1 t4
    rcases tt t t1 t4 with rfl | rfl | rfl | rfl
    · exact ⟨x 12 (by decide) (by decide), k8, rfl⟩
    · exact ⟨x 13 (by decide) (by decide), k9, rfl⟩
    · exact ⟨x 14 (by decide) (by decide), k10, rfl⟩
    · exact ⟨x 15 (by decide) (by decide), k11, rfl⟩
  · rw [bkr_ge (by omega)]
    have he : a - 40 < Tn T := by omega
    obtain ⟨-, -, -, k8, k9, k10, k11⟩ := c3 (a - 40) he
    have x := j.1.1.1
    intro t t1 t4
    rcases tt t t1 t4 with rfl | rfl | rfl | rfl
    · exact ⟨show ex 2 (a - 40) from x.E he (by decide), k8, rfl⟩
    · exact ⟨show ex 3 (a - 40) from x.E he (by decide), k9, rfl⟩
    · exact ⟨show ex 4 (a - 40) from x.E he (by decide), k10, rfl⟩
    · exact ⟨show ex 5 (a - 40) from x.E he (by decide), k11, rfl⟩
def imW (old : Int32) (p : Nat) (im : Bool) : Int32 := if im = true then old ||| ((1 : Int32) <<< (nI p &&& 31)) else old &&& (((1 : Int32) <<< (nI p &&& 31)) ^^^ (-1))
def entK (K : kS) (a p : Nat) (u val : Int32) (im : Bool) : kS := kwI (kwI (kwI (kwI K (bkr a).1 (bkr a).2 6 (K.1 (bkr a).1 (bkr a).2 6 ||| ((1 : Int32) <<< (nI p &&& 31)))) (bkr a).1 (bkr a).2 7 (imW (K.1 (bkr a).1 (bkr a).2 7) p im)) ((bkr a).1 + 1) (bkr a).2 p u) ((bkr a).1 + 2) (bkr a).2 p val
theorem c_enter (hA : KA A ex K S) (j : J0 T G L ex K σ v) {a p : Nat} (ha : VR T G a) (hp : p < 15) (u val : Int32) (im : Bool) : ∃ S', f_X6_enter (bka A a) (nI p) u val (b2 im) S = some S' ∧ KA A ex (entK K a p u val im) S' := by
  have bk := ha.bk j.2.1.1 j.1.1.1 j.2.1.2.1
  have hk := bkr_k a
  obtain ⟨x1, y1, z1⟩ := blkR j ha 1 (by decide) (by decide)
  obtain ⟨x2, y2, z2⟩ := blkR j ha 2 (by decide) (by decide)
  obtain ⟨S1, e1, h1⟩ := hA.PI (k := (bkr a).1) (i := (bkr a).2) (t := 6) (j := 6) bk.1 bk.2 (by omega) (K.1 (bkr a).1 (bkr a).2 6 ||| ((1 : Int32) <<< (nI p &&& 31)))
  obtain ⟨S2, e2, h2⟩ := h1.PI (k := (bkr a).1) (i := (bkr a).2) (t := 6) (j := 7) bk.1 bk.2 (by omega) (imW (K.1 (bkr a).1 (bkr a).2 7) p im)
  obtain ⟨S3, e3, h3⟩ := h2.SI (k := (bkr a).1 + 1) (i := (bkr a).2) (N := 15) (j := p) x1 z1 (by omega) hp u
  obtain ⟨S4, e4, h4⟩ := h3.SI (k := (bkr a).1 + 2) (i := (bkr a).2) (N := 15) (j := p) x2 z2 (by omega) hp val
  have g6 : gI S (some (bka A a)) 6 6 = some (K.1 (bkr a).1 (bkr a).2 6) := hA.I (bkr a).1 6 bk.1 bk.2
  have g7 : gI S1 (some (bka A a)) 6 7 = some (K.1 (bkr a).1 (bkr a).2 7) := by
    have : gI S1 (some (bka A a)) 6 7 = _ := h1.I (bkr a).1 6 bk.1 bk.2
    rw [this, kwI_j (by decide)]
  have g8 : gR S2 (some (bka A a)) 6 8 = some (some (A ((bkr a).1 + 1) (bkr a).2)) := by
    have : gR S2 (some (bka A a)) 6 8 = _ := h2.R (bkr a).1 6 bk.1 bk.2
    rw [this]
    show some ((K.2 (bkr a).1 (bkr a).2 8).map (kp A)) = _
    rw [y1]; rfl
  have g9 : gR S3 (some (bka A a)) 6 9 = some (some (A ((bkr a).1 + 2) (bkr a).2)) := by
    have : gR S3 (some (bka A a)) 6 9 = _ := h3.R (bkr a).1 6 bk.1 bk.2
    rw [this]
    show some ((K.2 (bkr a).1 (bkr a).2 9).map (kp A)) = _
    rw [y2]; rfl
  have e1' : pI S (some (bka A a)) 6 6 (K.1 (bkr a).1 (bkr a).2 6 ||| ((1 : Int32) <<< (nI p &&& 31))) = some S1 := e1
  have e2' : pI S1 (some (bka A a)) 6 7 (imW (K.1 (bkr a).1 (bkr a).2 7) p im) = some S2 := e2
  refine ⟨S4, ?_, h4⟩
  unfold f_X6_enter f_X6_enter_48 f_X6_enter_65
  rw [show (15 : Int32) = nI 15 from rfl, c_isBelow, qqx, if_dt (nI_inn hp (by decide)), g6, qqx, e1', qqx, g7, qqx, qqx, b2_i0]
  unfold imW at e2'
  cases im with
  | true => rw [if_pos rfl] at e2' ⊢; rw [e2', qqx, g8, qqx, e3, qqx, g9, qqx, e4, qqx]
  | false => rw [if_neg (by decide)] at e2' ⊢; rw [e2', qqx, g8, qqx, e3, qqx, g9, qqx, e4, qqx]
end ENT
