def cntF (c : Nat → Bool) : List Nat → Int32
  | [] => 0
  | x :: r => (if c x = true then 1 else 0) + cntF c r
theorem cntF_app (c : Nat → Bool) : ∀ l m, cntF c (l ++ m) = cntF c l + cntF c m := by
  intro l
  induction l with
  | nil => intro m; exact (Int32.zero_add _).symm
  | cons x r ih =>
    intro m
    show (if c x = true then 1 else 0) + cntF c (r ++ m) = (if c x = true then 1 else 0) + cntF c r + cntF c m
    rw [ih, Int32.add_assoc]
theorem cntF_cg {c d : Nat → Bool} {l : List Nat} (h : ∀ x ∈ l, c x = d x) : cntF c l = cntF d l := by
  induction l with
  | nil => rfl
  | cons x r ih =>
    show (if c x = true then 1 else 0) + cntF c r = (if d x = true then 1 else 0) + cntF d r
    rw [h x List.mem_cons_self, ih (fun y hy => h y (List.mem_cons_of_mem _ hy))]
def shT (T : qqT) (σ : mS) (o h : Bool) (dn : Int32) (e : Nat) : Bool := bt dn e && lkP T σ o h dn e
def FJ (T : qqT) (G : qqG) (L : qqL) (A : kA) (ex : Nat → Nat → Prop) (o9 h9 : Bool) (σ0 : mS) (K0 : kS) (D : List Nat) (ch un dn : Int32) (K : kS) (σ : mS) : Prop :=
  (KX T G A ex K σ ∧ KR T K ∧ anEq K σ ∧ KE T K σ) ∧ (RS T G σ ∧ RAn σ ∧ RNw σ ∧ RLs T L σ ∧ rowS 75 76 σ (Tord T)) ∧ (K.1 49 0 6 = σ.2 54 ∧ K.1 58 0 11 = b2 o9 ∧ K.1 58 0 12 = b2 h9) ∧
  (∀ e, e < Tn T → eRl K σ e) ∧ (∀ e, e < Tn T → bt (σ.2 48) e = false → ∀ p, p < 5 → σ.1 55 (5 * e + p) = -1) ∧ (∀ e, e < Tn T → TD T e = true → bt (K.1 49 0 10) e = bt (σ.2 49) e) ∧
  ((∀ e, e < 32 → bt (K.1 49 0 15) e = bt (ch ||| un) e) ∧ (∀ e, e < 32 → e ∉ D → bt ch e = false ∧ bt un e = false ∧ bt dn e = false) ∧ K.1 49 0 14 = dn) ∧
  ((∀ e, e ∈ D → bt (σ.2 48) e = true) ∧ ∀ e, e < 32 → ¬ (e < Tn T ∧ TD T e = true) → bt (σ.2 48) e = false) ∧ (∀ e, e < Tn T → e ∉ D → bt (σ.2 48) e = true → TD T e = true → ∀ p, p < 5 → σ.1 85 (5 * e + p) = qSeen σ e p) ∧
  ((∀ k, k < L.1 → σ.1 69 k = if (L.2 k).1 ∈ D then b2 (bt (K.1 6 (L.2 k).1 4) (L.2 k).2.1) else 0) ∧ ∀ e, e < Tn T → TD T e = false → K.1 6 e 4 = 0) ∧
  (K.1 49 0 12 = σ.2 52 ∧ K.1 49 0 13 = σ0.2 53 + cntF (shT T σ0 o9 h9 dn) D) ∧
  ((sB [43, 44, 45, 46, 47, 55, 56, 57, 58, 59, 69, 78, 82, 83, 84] [48, 52, 79] σ0 σ ∧ ∀ y, y < 30 → y ∉ D → rY y σ0 σ) ∧ kB FXI FXR K0 K)
theorem shT_cg {T : qqT} {σ σ' : mS} (h : ∀ f, f ∈ [0, 1, 2, 3, 4, 5, 37] → σ'.1 f = σ.1 f) (o h9 : Bool) (dn : Int32) (e : Nat) : lkP T σ' o h9 dn e = lkP T σ o h9 dn e := by
  have e1 : ∀ e, qPn T σ' e = qPn T σ e := fun e => by
    unfold qPn
    rw [qAny_cg (g := fun p => Ldc σ p (40 + e)) (fun p _ => by unfold Ldc; rw [h 37 (by decide)])]
  have e2 : ∀ e f, qTw T σ' e f = qTw T σ e f := fun e f => by
    unfold qTw
    rw [h 0 (by decide), h 1 (by decide), h 2 (by decide), h 3 (by decide), h 4 (by decide), h 5 (by decide), e1, e1]
  unfold lkP
  cases Tpv T e with
  | none => rfl
  | some f => show (bt dn f && (!o && (!h9 && qTw T σ' e f))) = (bt dn f && (!o && (!h9 && qTw T σ e f))); rw [e2]
theorem bt_not {x : Int32} {i : Nat} (hi : i < 32) : bt (x ^^^ (-1)) i = !bt x i := by
  rw [b_xor, b_m1 i hi]
  cases bt x i <;> rfl
section FLP
variable {T : qqT} {G : qqG} {L : qqL} {A : kA} {ex : Nat → Nat → Prop} {K K0 : kS} {S : cS} {σ σ0 : mS} {D : List Nat} {ch un dn : Int32} {o9 h9 : Bool}
theorem shT_more (hw : Tw T) {e : Nat} {R : List Nat} (ho : Tord T = D ++ e :: R) {dn' : Int32} (hd : ∀ x, x < 32 → x ≠ e → bt dn' x = bt dn x) : ∀ y ∈ D, shT T σ0 o9 h9 dn' y = shT T σ0 o9 h9 dn y := by
  intro y hy
  have hnd := Tord_nodup hw
  rw [ho] at hnd
  have hye : y ≠ e := fun z => by
    subst z
    exact (List.nodup_append.mp hnd).2.2 y hy y List.mem_cons_self rfl
  have hyo : y ∈ Tord T := by rw [ho]; exact List.mem_append_left _ hy
  have hy30 : y < 32 := by have := (Tord_is hw hyo).1; have := hw.n30; omega
  unfold shT
  rw [hd y hy30 hye]
  unfold lkP
  cases hp : Tpv T y with
  | none => rfl
  | some f =>
    show (bt dn y && (bt dn' f && (!o9 && (!h9 && qTw T σ0 y f)))) = (bt dn y && (bt dn f && (!o9 && (!h9 && qTw T σ0 y f))))
    by_cases c : Tsp T y = Tsp T f
    · have hbf := Tord_bf hw hyo hp c
      obtain ⟨u, v, w, huv⟩ := hbf
      have hfe : f ≠ e := by
        intro z
        subst z
        rw [ho] at huv
        have hnd2 := hnd
        rw [huv] at hnd2
        have h1 : y ∈ D ++ f :: R := List.mem_append_left _ hy
        obtain ⟨D1, D2, rfl⟩ := List.append_of_mem hy
        have e1 : (D1 ++ y :: D2) ++ f :: R = D1 ++ y :: (D2 ++ f :: R) := by simp
        have e2 : u ++ f :: (v ++ y :: w) = (u ++ f :: v) ++ y :: w := by simp
        rw [e1] at huv hnd
        rw [e2] at huv
        have hnd3 := hnd
        rw [huv] at hnd3
        have key : D1 = u ++ f :: v := by
          have hy1 : y ∉ D1 := fun z => (List.nodup_append.mp hnd).2.2 y z y List.mem_cons_self rfl
          have hy2 : y ∉ u ++ f :: v := fun z => (List.nodup_append.mp hnd3).2.2 y z y List.mem_cons_self rfl
          have i1 : (D1 ++ y :: (D2 ++ f :: R)).idxOf y = D1.length := by
            rw [List.idxOf_append]; simp [hy1]
          have i2 : ((u ++ f :: v) ++ y :: w).idxOf y = (u ++ f :: v).length := by
            rw [List.idxOf_append]; simp only [hy2, if_false]; simp
          rw [huv, i2] at i1
          exact (List.append_inj huv i1.symm).1
        have hf1 : f ∈ D1 := by rw [key]; simp
        exact (List.nodup_append.mp hnd).2.2 f hf1 f (by simp) rfl
      have hf30 : f < 32 := by
        have := Tpv_lt hw (Tord_is hw hyo).1 hp
        have := hw.n30
        omega
      rw [hd f hf30 hfe]
    · have : qTw T σ0 y f = false := by
        unfold qTw
        rw [decide_eq_false c]
        simp only [Bool.false_and, Bool.and_false]
      rw [this]
      simp only [Bool.and_false]
theorem RAn.cg {σ' : mS} (h : RAn σ) (k : ∀ f, f ∈ [60, 61, 62, 63, 64] → σ'.1 f = σ.1 f) : RAn σ' := by
  unfold RAn at h ⊢
  rw [k 60 (by decide), k 61 (by decide), k 62 (by decide), k 63 (by decide), k 64 (by decide)]
  exact h
theorem KE.cg {σ' : mS} (h : KE T K σ) (k : ∀ f, f ∈ [0, 1, 2, 3, 4, 5] → σ'.1 f = σ.1 f) : KE T K σ' := by
  unfold KE at h ⊢
  rw [k 0 (by decide), k 1 (by decide), k 2 (by decide), k 3 (by decide), k 4 (by decide), k 5 (by decide)]
  exact h
theorem RLs.cg {σ' : mS} (h : RLs T L σ) (k : ∀ f, f ∈ [65, 66, 67, 68] → σ'.1 f = σ.1 f) (h70 : σ'.2 70 = σ.2 70) : RLs T L σ' := by
  unfold RLs at h ⊢
  rw [k 65 (by decide), k 66 (by decide), k 67 (by decide), k 68 (by decide), h70]
  exact h
set_option maxRecDepth 20000 in
theorem FJ_next (hw : Tw T) (J : FJ T G L A ex o9 h9 σ0 K0 D ch un dn K σ) {e : Nat} {R : List Nat} (ho : Tord T = D ++ e :: R) {ch' un' dn' : Int32} {K' : kS} {σ' : mS} (hs : sB [43, 44, 45, 46, 47, 55, 56, 57, 58, 59, 69, 78, 82, 83, 84] [48, 52, 79] σ σ') (hy : ∀ y, y < 30 → y ≠ e → rY y σ σ') (h48 : ∀ y, y < 32 → bt (σ'.2 48) y = (bt (σ.2 48) y || decide (y = e))) (hK : kB FXI FXR K K') (hKy : ∀ y, y ≠ e → ∀ k j, 6 ≤ k → k ≤ 10 → K'.1 k y j = K.1 k y j) (hn : RNw σ') (he' : eRl K' σ' e) (hmv : ∀ y, y < 32 → bt (K'.1 49 0 15) y = bt (ch' ||| un') y) (hcu : ∀ y, y < 32 → y ≠ e → bt ch' y = bt ch y ∧ bt un' y = bt un y ∧ bt dn' y = bt dn y) (h14 : K'.1 49 0 14 = dn') (hlx : ∀ k, k < L.1 → σ'.1 69 k = if (L.2 k).1 = e then b2 (bt (K'.1 6 e 4) (L.2 k).2.1) else σ.1 69 k) (h12 : K'.1 49 0 12 = σ'.2 52) (h13 : K'.1 49 0 13 = K.1 49 0 13 + (if shT T σ0 o9 h9 dn' e = true then 1 else 0)) : FJ T G L A ex o9 h9 σ0 K0 (D ++ [e]) ch' un' dn' K' σ' := by
  have h30 := hw.n30
  have heo : e ∈ Tord T := by rw [ho]; exact List.mem_append_right _ List.mem_cons_self
  obtain ⟨he, hD⟩ := Tord_is hw heo
  have hnd := Tord_nodup hw
  rw [ho] at hnd
  have heD : e ∉ D := fun z => (List.nodup_append.mp hnd).2.2 e z e List.mem_cons_self rfl
  have g1 : ∀ f, f ∉ [43, 44, 45, 46, 47, 55, 56, 57, 58, 59, 69, 78, 82, 83, 84] → σ'.1 f = σ.1 f := hs.1
  have g2 : ∀ f, f ∉ [48, 52, 79] → σ'.2 f = σ.2 f := hs.2
  obtain ⟨⟨j1, j2, j3, j4⟩, ⟨j5, j6, j7, j8, j9⟩, ⟨j10, j11, j12⟩, j13, j14, j15, ⟨j16, j17, j18⟩, ⟨j19, j20⟩, j21, ⟨j22, j23⟩, ⟨j24, j25⟩, ⟨j26, j27⟩⟩ := J
  have rI : ∀ k i j, ¬ FXI k i j → K'.1 k i j = K.1 k i j := hK.1
  have mem : ∀ y, y ∈ D ++ [e] ↔ y ∈ D ∨ y = e := fun y => by simp
  refine ⟨⟨(j1.va hK.fxq).cg (fun f hf => g1 f (by revert f; decide)) (fun f hf => g2 f (by revert f; decide)), j2.va hK.fxq, ?_, ?_⟩, ⟨j5.sB hs (by decide) (by decide), j6.cg (fun f hf => g1 f (by revert f; decide)), hn, j8.cg (fun f hf => g1 f (by revert f; decide)) (g2 70 (by decide)), j9.sB hs (by decide) (by decide)⟩, ⟨?_, ?_, ?_⟩, fun y hyn => ?_, fun y hyn h0 p hp => ?_, fun y hyn hyd => ?_, ⟨hmv, fun y hy32 hyD => ?_, h14⟩, ⟨fun y hyD => ?_, fun y hy32 hyn => ?_⟩, fun y hyn hyD hyh hyd p hp => ?_, ⟨fun k hk => ?_, fun y hyn hyd => ?_⟩, ⟨h12, ?_⟩, ⟨⟨j26.1.tr hs, fun y hy30 hyD => (j26.2 y hy30 (fun z => hyD ((mem y).mpr (Or.inl z)))).tr (hy y hy30 (fun z => hyD ((mem y).mpr (Or.inr z))))⟩, j27.tr hK⟩⟩
  · intro a ha
    have := j3 a ha
    have k3 : anEq K' σ := j3.keep hK (fun i j => by unfold FXI; omega)
    have := k3 a ha
    unfold aSt aFn at this ⊢
    rw [g1 60 (by decide), g1 61 (by decide), g1 62 (by decide), g1 63 (by decide), g1 64 (by decide)]
    exact this
  · exact (j4.keep hK (fun i j h1 h2 => by unfold FXI; omega)).cg (fun f hf => g1 f (by revert f; decide))
  · rw [rI 49 0 6 (by unfold FXI; omega), g2 54 (by decide)]; exact j10
  · rw [rI 58 0 11 (by unfold FXI; omega)]; exact j11
  · rw [rI 58 0 12 (by unfold FXI; omega)]; exact j12
  · by_cases c : y = e
    · subst c; exact he'
    · exact (j13 y hyn).cg (hy y (by omega) c) (by rw [h48 y (by omega), decide_eq_false c, Bool.or_false]) (fun k j h1 h2 _ => hKy y c k j h1 h2)
  · have h0' := h0
    rw [h48 y (by omega)] at h0'
    have hc : y ≠ e := fun z => by rw [z, decide_eq_true rfl, Bool.or_true] at h0'; cases h0'
    rw [decide_eq_false hc, Bool.or_false] at h0'
    rw [((hy y (by omega) hc).2.2.2.1 p hp).2.1]
    exact j14 y hyn h0' p hp
  · rw [rI 49 0 10 (by unfold FXI; omega), g2 49 (by decide)]; exact j15 y hyn hyd
  · have hyD' : y ∉ D ∧ y ≠ e := ⟨fun z => hyD ((mem y).mpr (Or.inl z)), fun z => hyD ((mem y).mpr (Or.inr z))⟩
    obtain ⟨a1, a2, a3⟩ := hcu y hy32 hyD'.2
    rw [a1, a2, a3]
    exact j17 y hy32 hyD'.1
  · have hy32 : y < 32 := by
      rcases (mem y).mp hyD with z | z
      · have := (Tord_is hw (show y ∈ Tord T by rw [ho]; exact List.mem_append_left _ z)).1
        omega
      · omega
    rw [h48 y hy32]
    rcases (mem y).mp hyD with z | z
    · rw [j19 y z, Bool.true_or]
    · rw [z, decide_eq_true rfl, Bool.or_true]
  · rw [h48 y hy32, j20 y hy32 hyn, Bool.false_or]
    exact decide_eq_false (fun z => hyn (by rw [z]; exact ⟨he, hD⟩))
  · have hyD' : y ∉ D ∧ y ≠ e := ⟨fun z => hyD ((mem y).mpr (Or.inl z)), fun z => hyD ((mem y).mpr (Or.inr z))⟩
    rw [h48 y (by omega), decide_eq_false hyD'.2, Bool.or_false] at hyh
    rw [g1 85 (by decide), qSeen_cg hp (hy y (by omega) hyD'.2) (fun f hf => g1 f (by revert f; decide)) (g2 54 (by decide))]
    exact j21 y hyn hyD'.1 hyh hyd p hp
  · rw [hlx k hk]
    by_cases c : (L.2 k).1 = e
    · rw [if_pos c, if_pos ((mem _).mpr (Or.inr c)), c]
    · rw [if_neg c, j22 k hk, hKy _ c 6 4 (by decide) (by decide)]
      by_cases d : (L.2 k).1 ∈ D
      · rw [if_pos d, if_pos ((mem _).mpr (Or.inl d))]
      · rw [if_neg d, if_neg (fun z => ((mem _).mp z).elim d c)]
  · have hc : y ≠ e := fun z => by rw [z, hD] at hyd; cases hyd
    rw [hKy y hc 6 4 (by decide) (by decide)]
    exact j23 y hyn hyd
  · rw [h13, j25, cntF_app, cntF_cg (shT_more (σ0 := σ0) (o9 := o9) (h9 := h9) hw ho (dn' := dn') (dn := dn) (fun x h1 h2 => (hcu x h1 h2).2.2))]
    show _ = σ0.2 53 + (cntF (shT T σ0 o9 h9 dn) D + ((if shT T σ0 o9 h9 dn' e = true then 1 else 0) + 0))
    rw [Int32.add_zero, Int32.add_assoc]
end FLP
