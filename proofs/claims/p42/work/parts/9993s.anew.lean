section QS
variable {mm : Nat × Nat × Nat}
variable {T T' : qqT} {G G' : qqG} {σ σ' σ0 σ1 σ2 : mS} {hl dr : Bool} {e k n x p s y ar ar' : Nat} {D R : List Nat}
def rE2 (σ : mS) (ar : Nat) (σ' : mS) (ar' y : Nat) : Prop := (∀ p, p < 12 → σ'.1 43 (12 * (30 * ar' + y) + p) = σ.1 43 (12 * (30 * ar + y) + p)) ∧ ∀ v, v < 3 → σ'.1 44 (3 * (30 * ar' + y) + v) = σ.1 44 (3 * (30 * ar + y) + v) ∧ σ'.1 45 (3 * (30 * ar' + y) + v) = σ.1 45 (3 * (30 * ar + y) + v)
def hE2 (σ : mS) (ar : Nat) (σ' : mS) (ar' y : Nat) : Prop := 0 < σ.1 43 (12 * (30 * ar + y) + 6) → σ'.1 46 (30 * ar' + y) = σ.1 46 (30 * ar + y)
def sol (T : qqT) (G : qqG) (σ : mS) (ar x : Nat) : Prop := (∀ p, p < 12 → σ.1 43 (12 * (30 * ar + x) + p) = qVl σ (rI T G (hS T G σ) ar x false) p) ∧ (∀ v, v < 3 → (σ.1 44 (3 * (30 * ar + x) + v), σ.1 45 (3 * (30 * ar + x) + v)) = qVr σ (rI T G (hS T G σ) ar x false) v) ∧ (0 < σ.1 43 (12 * (30 * ar + x) + 6) → σ.1 46 (30 * ar + x) = qSize T G (hS T G σ) ar x)
theorem sol_0 (h1 : cons T G σ e) (h2 : szOK T G σ e) : sol T G σ 0 e := by
  refine ⟨fun p hp => ?_, fun v hv => ?_, fun z => ?_⟩
  · rw [ix0]; exact h1.1 p hp
  · rw [ix0]; exact h1.2 v hv
  · rw [ix0] at z
    rw [Nat.mul_zero, Nat.zero_add]
    exact h2 z
theorem V2 (h40 : Gr G ≤ 40) (fe : fEq G σ σ' e) (le : lEq T T G (hS T G σ) (hS T G σ') e) {tr : Bool} (hz : tr = false → hsz T σ' ar' e = hsz T σ ar e) (par : ∀ y, Tsp T e = some y → rE2 σ ar σ' ar' y) (r0 : Tsp T e ≠ none → σ'.1 43 (360 * ar' + 1) = σ.1 43 (360 * ar + 1)) : (∀ v, qVr σ' (rI T G (hS T G σ') ar' e tr) v = qVr σ (rI T G (hS T G σ) ar e tr) v) ∧ ∀ p, p < 12 → qVl σ' (rI T G (hS T G σ') ar' e tr) p = qVl σ (rI T G (hS T G σ) ar e tr) p := by
  have ho : (if tr then none else hsz T σ' ar' e) = (if tr then none else hsz T σ ar e) := by
    cases tr with
    | true => rw [if_pos rfl, if_pos rfl]
    | false => rw [if_neg (by decide), if_neg (by decide)]; exact hz rfl
  have lf : ∀ p, p < 15 → ∀ o, Lfnd T G (hS T G σ') o e p = Lfnd T G (hS T G σ) o e p ∧ ∀ a, Lfnd T G (hS T G σ) o e p = some a → rwE G e a := fun p hp o => Lfnd_cgT h40 fe.hS le hp
  rw [rI_ar, rI_ar]
  refine qV_loc (fun p hp => ?_) ?_ (fun z => r0 (fun w => z ?_)) ho (fun p hp a ha f hf => ?_) fe.2.2
  · show Lfnd T G (hS T G σ') (if tr then none else hsz T σ' ar' e) e p = Lfnd T G (hS T G σ) (if tr then none else hsz T σ ar e) e p
    rw [ho]; exact (lf p hp _).1
  · cases hs : Tsp T e with
    | none => exact Or.inl ⟨rfl, rfl⟩
    | some y =>
      obtain ⟨p1, p2⟩ := par y hs
      refine Or.inr ⟨_, _, rfl, rfl, fun p hp => p1 p hp, fun v hv => ?_⟩
      show (σ'.1 44 (3 * (30 * ar' + y) + v), σ'.1 45 (3 * (30 * ar' + y) + v)) = (σ.1 44 (3 * (30 * ar + y) + v), σ.1 45 (3 * (30 * ar + y) + v))
      rw [(p2 v hv).1, (p2 v hv).2]
  · rw [w]; rfl
  · exact fe.2.1 a ((lf p hp _).2 a ha) p hp f (by revert f; decide)
theorem Sz2 (hw : Tw T) (h40 : Gr G ≤ 40) (fe : ∀ x, fEq G σ σ' x) (le : ∀ x, lEq T T G (hS T G σ) (hS T G σ') x) (own : rE2 σ ar σ' ar' e) (r0 : σ'.1 43 (360 * ar' + 1) = σ.1 43 (360 * ar + 1)) : qSize T G (hS T G σ') ar' e = qSize T G (hS T G σ) ar e := by
  unfold qSize
  rw [hS_o (f := 43), hS_o (f := 43), own.1 2 (by decide)]
  by_cases c : σ.1 43 (12 * (30 * ar + e) + 2) = -1000000
  · rw [if_pos c, if_pos c]
    refine sumF_cg (fun x hx => ?_) 0
    have sx := (Tfan_mem hw).mp hx
    rw [tm_hS, tm_hS]
    obtain ⟨c1, c2⟩ := V2 (ar := ar) (ar' := ar') (tr := true) h40 (fe x) (le x) (fun z => by cases z) (fun y hy => by rw [sx] at hy; cases hy; exact own) (fun _ => r0)
    unfold tmV
    rw [c2 2 (by decide), c2 3 (by decide)]
  · rw [if_neg c, if_neg c]
theorem sol_uni (hw : Tw T) (h40 : Gr G ≤ 40) (fe : ∀ x, fEq G σ σ' x) (le : ∀ x, lEq T T G (hS T G σ) (hS T G σ') x) : ∀ (R D : List Nat), Tord T = D ++ R → (∀ x, x ∈ Tord T → sol T G σ ar x) → (∀ x, x ∈ Tord T → sol T G σ' ar' x) → (∀ x, x ∈ D → rE2 σ ar σ' ar' x ∧ hE2 σ ar σ' ar' x) → ∀ x, x ∈ Tord T → rE2 σ ar σ' ar' x ∧ hE2 σ ar σ' ar' x := by
  intro R
  induction R with
  | nil =>
    intro D ho _ _ h x hx
    rw [List.append_nil] at ho
    exact h x (by rw [← ho]; exact hx)
  | cons e R ih =>
    intro D ho s1 s2 h
    refine ih (D ++ [e]) (by rw [ho]; simp) s1 s2 (fun x hx => ?_)
    rcases List.mem_append.mp hx with hx | hx
    · exact h x hx
    · rw [List.mem_singleton.mp hx]
      have heo : e ∈ Tord T := by rw [ho]; exact List.mem_append_right _ List.mem_cons_self
      obtain ⟨he, hd⟩ := Tord_is hw heo
      have anc : ∀ y, TB T y e = true → rE2 σ ar σ' ar' y ∧ hE2 σ ar σ' ar' y := fun y hy => h y (TB_pre hw ho hy)
      have r0 : Tsp T e ≠ none → σ'.1 43 (360 * ar' + 1) = σ.1 43 (360 * ar + 1) := fun z => by
        have e0 : e ≠ 0 := fun w => z (by rw [w]; exact Tsp_0 hw)
        have := (anc 0 (TB_00 hw e he hd e0)).1.1 1 (by decide)
        rw [show 12 * (30 * ar' + 0) + 1 = 360 * ar' + 1 by omega, show 12 * (30 * ar + 0) + 1 = 360 * ar + 1 by omega] at this
        exact this
      obtain ⟨a1, a2, a3⟩ := s1 e heo
      obtain ⟨b1, b2, b3⟩ := s2 e heo
      obtain ⟨v1, v2⟩ := V2 (ar := ar) (ar' := ar') (tr := false) h40 (fe e) (le e) (fun _ => hsz_anc hw he (fun y hy => ⟨(anc y hy).1.1 6 (by decide), (anc y hy).2⟩)) (fun y hs => (anc y (TB_sp hw he hs).1).1) r0
      have own : rE2 σ ar σ' ar' e := by
        refine ⟨fun p hp => ?_, fun v hv => ?_⟩
        · rw [b1 p hp, a1 p hp, v2 p hp]
        · have x1 := b2 v hv
          have x2 := a2 v hv
          rw [v1 v, ← x2] at x1
          exact ⟨congrArg Prod.fst x1, congrArg Prod.snd x1⟩
      refine ⟨own, fun hp => ?_⟩
      have r0' : σ'.1 43 (360 * ar' + 1) = σ.1 43 (360 * ar + 1) := by
        by_cases e0 : e = 0
        · have := own.1 1 (by decide)
          rw [e0, show 12 * (30 * ar' + 0) + 1 = 360 * ar' + 1 by omega, show 12 * (30 * ar + 0) + 1 = 360 * ar + 1 by omega] at this
          exact this
        · exact r0 (fun w => e0 (TD_top hw he hd w))
      rw [a3 hp, b3 (by rw [own.1 6 (by decide)]; exact hp), Sz2 hw h40 fe le own r0']
def TV (σ : mS) (ar e p : Nat) : Int32 := if p < 12 then σ.1 43 (12 * (30 * ar + e) + p) else if (0 : Int32) ≤ σ.1 44 (3 * (30 * ar + e) + (p - 12)) then 100000 * σ.1 44 (3 * (30 * ar + e) + (p - 12)) + σ.1 45 (3 * (30 * ar + e) + (p - 12)) else -1000001
theorem r_told (har : ar < 2) (he : e < 30) (hp : p < 15) : f_told (nI e) (nI p) (nI ar) σ = some (TV σ ar e p) := by
  have ea : (30 : Int32) * nI ar + nI e = nI (30 * ar + e) := by rw [show (30 : Int32) = nI 30 from rfl, pk_mul, nI_add]
  unfold f_told f_told_75 TV
  rw [ea]
  by_cases c : 12 ≤ p
  · obtain ⟨u, rfl⟩ : ∃ u, p = 12 + u := ⟨p - 12, by omega⟩
    have hu : u < 3 := by omega
    have ei : (3 : Int32) * nI (30 * ar + e) + nI (12 + u) - 12 = nI (3 * (30 * ar + e) + u) := by
      rw [show (3 : Int32) = nI 3 from rfl, pk_mul, nI_add, show (12 : Int32) = nI 12 from rfl, pk_sub (by omega)]
      congr 1; omega
    rw [if_pos (by rw [show (12 : Int32) = nI 12 from rfl]; exact nI_le (by omega) (by omega)), ei, rd_44 (by omega), qqx, rd_45 (by omega), qqx, if_neg (show ¬ 12 + u < 12 by omega), show 12 + u - 12 = u by omega]
    by_cases z : (0 : Int32) ≤ σ.1 44 (3 * (30 * ar + e) + u)
    · rw [if_pos z, qqx, if_pos z]
    · rw [if_neg z, if_neg z]
  · have ei : (12 : Int32) * nI (30 * ar + e) + nI p = nI (12 * (30 * ar + e) + p) := by rw [show (12 : Int32) = nI 12 from rfl, pk_mul, nI_add]
    rw [if_neg (ge12 (by omega)), ei, rd_43 (by omega), qqx, if_pos (by omega)]
theorem TV_eq (h : rE2 σ ar σ' ar' e) (hp : p < 15) : TV σ' ar' e p = TV σ ar e p := by
  unfold TV
  by_cases c : p < 12
  · rw [if_pos c, if_pos c, h.1 p c]
  · rw [if_neg c, if_neg c, (h.2 (p - 12) (by omega)).1, (h.2 (p - 12) (by omega)).2]
theorem qSize_a2 (h : rA2 σ σ') (hw : Tw T) (he : e < Tn T) : qSize T G σ' 1 e = qSize T G σ 1 e := by
  have h30 := hw.n30
  unfold qSize
  rw [h.2.1 _ (by omega)]
  by_cases c : σ.1 43 (12 * (30 * 1 + e) + 2) = -1000000
  · rw [if_pos c, if_pos c]
    exact sumF_cg (fun x _ => rI_a2 h hw (by decide)) 0
  · rw [if_neg c, if_neg c]
def AI (T : qqT) (G : qqG) (σ0 : mS) (D : List Nat) (τ : mS) : Prop := (RS T G τ ∧ RDv T G τ) ∧ rowS 75 76 τ (Tord T) ∧ hitS T G τ ∧ rA1 (fun i => 30 ≤ i) σ0 τ ∧ (∀ x, x ∈ D → ∀ v, v < 3 → okP (rPr τ 1 x v)) ∧ ∀ x, x ∈ D → sol T G τ 1 x
theorem an_run (hw : Tw T) (x1 x2 : Int32) : ∀ (R D : List Nat) (m : Nat) (τ : mS), AI T G σ0 D τ → Tord T = D ++ R → R.length < m → ∃ τ', f_valueAnew_59 m x1 x2 (nI D.length) τ = (f_told x1 x2 1 τ').bind (fun v1 => some (v1, τ')) ∧ AI T G σ0 (Tord T) τ' := by
  have h30 := hw.n30
  have hlen := Tord_len hw
  intro R
  induction R with
  | nil =>
    intro D m τ J ho hm
    obtain ⟨m, rfl⟩ : ∃ m', m = m' + 1 := ⟨m - 1, by omega⟩
    rw [List.append_nil] at ho
    refine ⟨τ, ?_, by rw [ho]; exact J⟩
    rw [f_valueAnew_59, J.2.1.1, ho, if_pos (Int32.le_refl _)]
  | cons e R ih =>
    intro D m τ J ho hm
    obtain ⟨m, rfl⟩ : ∃ m', m = m' + 1 := ⟨m - 1, by omega⟩
    have hl1 : (e :: R).length = R.length + 1 := rfl
    have heo : e ∈ Tord T := by rw [ho]; exact List.mem_append_right _ List.mem_cons_self
    obtain ⟨he, hde⟩ := Tord_is hw heo
    obtain ⟨⟨rs, dv⟩, row, hit, ra, hok, hso⟩ := J
    have h40 := rs.2.1.r40
    obtain ⟨σ1, σ2, z, e1, e2, e3, w1, a2, v1, l1, hz, ok1⟩ := r_an hw rs dv he hde (fun y hy => hok y (TB_pre hw ho (TB_sp hw he hy).1))
    have fr := r_an_fr (z := z) (show e < 30 by omega) w1 a2
    have heD := D_no hw ho
    have lD : ∀ y, y ∈ D → y < 30 ∧ y ≠ e := fun y hy => by
      have := (Tord_is hw (show y ∈ Tord T by rw [ho]; exact List.mem_append_left _ hy)).1
      exact ⟨by omega, fun w => heD (by rw [← w]; exact hy)⟩
    have o43 : ∀ p, p < 12 → (up σ2 46 (30 + e) z).1 43 (12 * (30 * 1 + e) + p) = σ1.1 43 (12 * (30 * 1 + e) + p) := fun p hp => by rw [up_o (by decide), a2.2.1 _ (by omega)]
    have o45 : ∀ v, v < 3 → (up σ2 46 (30 + e) z).1 44 (3 * (30 * 1 + e) + v) = σ1.1 44 (3 * (30 * 1 + e) + v) ∧ (up σ2 46 (30 + e) z).1 45 (3 * (30 * 1 + e) + v) = σ1.1 45 (3 * (30 * 1 + e) + v) := fun v hv3 => by
      rw [up_o (by decide), up_o (by decide), (a2.2.2.1 _ (by omega)).1, (a2.2.2.1 _ (by omega)).2]; exact ⟨rfl, rfl⟩
    have keepY : ∀ y, y < 30 → y ≠ e → rE2 τ 1 (up σ2 46 (30 + e) z) 1 y ∧ (up σ2 46 (30 + e) z).1 46 (30 * 1 + y) = τ.1 46 (30 * 1 + y) := fun y hy hne => ⟨⟨fun p hp => fr.2.1 _ (by omega) (by omega), fun v hv => fr.2.2.1 _ (by omega) (by omega)⟩, fr.2.2.2.1 _ (by omega)⟩
    have sb := fr.sB
    have fe : ∀ x, fEq G τ (up σ2 46 (30 + e) z) x := fun x => fEq.of (fun f hf => sb.1 f (by revert f; decide)) (sb.2 50 (by decide))
    have le : ∀ x, lEq T T G (hS T G τ) (hS T G (up σ2 46 (30 + e) z)) x := fun x => hS_same (fun f hf => sb.1 f (by revert f; decide)) (sb.1 30 (by decide))
    have hit' : hitS T G (up σ2 46 (30 + e) z) := hit.cg9 (fun f hf => sb.1 f (by revert f; decide))
    have ancs : ∀ x, x < Tn T → (x = e ∨ x ∈ D) → ∀ y, TB T y x = true → rE2 τ 1 (up σ2 46 (30 + e) z) 1 y ∧ (up σ2 46 (30 + e) z).1 46 (30 * 1 + y) = τ.1 46 (30 * 1 + y) := fun x hx hxe y hy => by
      have yD : y ∈ D := by
        rcases hxe with w | w
        · rw [w] at hy; exact TB_pre hw ho hy
        · exact D_anc hw ho w hy
      exact keepY y (lD y yD).1 (lD y yD).2
    have r0 : ∀ x, x < Tn T → TD T x = true → (x = e ∨ x ∈ D) → Tsp T x ≠ none → (up σ2 46 (30 + e) z).1 43 (360 * 1 + 1) = τ.1 43 (360 * 1 + 1) := fun x hx hxd hxe hs => by
      have x0 : x ≠ 0 := fun w => hs (by rw [w]; exact Tsp_0 hw)
      have := (ancs x hx hxe 0 (TB_00 hw x hx hxd x0)).1.1 1 (by decide)
      exact this
    have V : ∀ x, x < Tn T → TD T x = true → (x = e ∨ x ∈ D) → (∀ v, qVr (up σ2 46 (30 + e) z) (rI T G (hS T G (up σ2 46 (30 + e) z)) 1 x false) v = qVr τ (rI T G (hS T G τ) 1 x false) v) ∧ ∀ p, p < 12 → qVl (up σ2 46 (30 + e) z) (rI T G (hS T G (up σ2 46 (30 + e) z)) 1 x false) p = qVl τ (rI T G (hS T G τ) 1 x false) p := fun x hx hxd hxe => V2 (ar := 1) (ar' := 1) (tr := false) h40 (fe x) (le x) (fun _ => hsz_anc hw hx (fun y hy => ⟨(ancs x hx hxe y hy).1.1 6 (by decide), fun _ => (ancs x hx hxe y hy).2⟩)) (fun y hs => (ancs x hx hxe y (TB_sp hw hx hs).1).1) (r0 x hx hxd hxe)
    have J' : AI T G σ0 (D ++ [e]) (up σ2 46 (30 + e) z) := by
      refine ⟨⟨rs.sB sb (by decide) (by decide), dv.cg9 (fun f hf => sb.1 f (by revert f; decide))⟩, row.sB sb (by decide) (by decide), hit', ra.tr (fr.wd (fun i hi => by omega)), fun y hy v hv3 => ?_, fun y hy => ?_⟩
      · rcases List.mem_append.mp hy with h | h
        · have r := (keepY y (lD y h).1 (lD y h).2).1.2 v hv3
          have : rPr (up σ2 46 (30 + e) z) 1 y v = rPr τ 1 y v := Prod.ext r.1 r.2
          rw [this]; exact hok y h v hv3
        · rw [List.mem_singleton.mp h]
          have r := o45 v hv3
          have : rPr (up σ2 46 (30 + e) z) 1 e v = rPr σ1 1 e v := Prod.ext r.1 r.2
          rw [this]; exact ok1 v hv3
      · rcases List.mem_append.mp hy with h | h
        · obtain ⟨yn, yd⟩ := Tord_is hw (show y ∈ Tord T by rw [ho]; exact List.mem_append_left _ h)
          obtain ⟨c1, c2⟩ := V y yn yd (Or.inr h)
          obtain ⟨s1, s2, s3⟩ := hso y h
          obtain ⟨k1, k2⟩ := keepY y (lD y h).1 (lD y h).2
          have h00 : (up σ2 46 (30 + e) z).1 43 (360 * 1 + 1) = τ.1 43 (360 * 1 + 1) := by
            have z0 := D_zero hw ho h
            exact (keepY 0 (by omega) (lD 0 z0).2).1.1 1 (by decide)
          refine ⟨fun p hp => ?_, fun v hv => ?_, fun hp => ?_⟩
          · rw [k1.1 p hp, c2 p hp]; exact s1 p hp
          · rw [(k1.2 v hv).1, (k1.2 v hv).2, c1 v]; exact s2 v hv
          · rw [k1.1 6 (by decide)] at hp
            rw [k2, s3 hp, Sz2 hw h40 fe le k1 h00]
        · rw [List.mem_singleton.mp h]
          obtain ⟨c1, c2⟩ := V e he hde (Or.inl rfl)
          obtain ⟨u1, u2⟩ := rI_hit (e := e) h40 hit 1 false
          refine ⟨fun p hp => ?_, fun v hv => ?_, fun hp => ?_⟩
          · rw [o43 p hp, l1 p hp, c2 p hp, u2 p hp]
          · rw [(o45 v hv).1, (o45 v hv).2, c1 v, ← u1 v]
            exact Prod.ext (v1 v hv).1 (v1 v hv).2
          · rw [o43 6 (by decide)] at hp
            rw [← qSize_hit h40 hit' 1 e, qSize_46]
            have : (up σ2 46 (30 + e) z).1 46 (30 * 1 + e) = z := by rw [show 30 * 1 + e = 30 + e by omega, up_ss]
            rw [this, hz, if_pos hp]
            refine (qSize_a2 a2 hw he).symm
    obtain ⟨τ', f1, J2⟩ := ih (D ++ [e]) m (up σ2 46 (30 + e) z) J' (by rw [ho]; simp) (by omega)
    refine ⟨τ', ?_, J2⟩
    rw [r_vA59 (m := m) (x1 := x1) (x2 := x2) hlen ho row e1 e2 e3 (w1.2.1 75 (by decide)), ← f1]
    simp
end QS
