def Pp9 (b : Bool) (p : Nat) : Option Nat := if b = true then none else some p
def Ph9 (b : Bool) (p : Nat) : Option Nat := if b = true then some p else none
def lkR (k _i j : Nat) : Prop := k = 0 ∧ 8 ≤ j ∧ j ≤ 13
section IN2
variable {T T' : qqT} {G : qqG} {L : qqL} {A A' : kA} {ex ex' : Nat → Nat → Prop} {K K' K1 : kS} {S S' S1 : cS} {σ σ' σ2 : mS} {v v' e p i x : Nat} {b : Bool} {pv nx : Option Nat}
theorem c_ins31 (t : KT T ex K) (h : KA A ex K S) {l : List Nat} (hl : ∀ y ∈ l, y < Tn T) (hs : sibL T l) (hi : i ≤ l.length) (hi31 : i < 2 ^ 31) (x1 x2 x3 : Option Nat) : ∀ d m k, k + d = i → d < m → f_X10_insert_31 (A 50 0) m x1 x2 x3 (nI i) (el A (pvI l k)) (el A l[k]?) (nI k) S = f_X10_insert_60 (A 50 0) x1 x2 x3 (el A (pvI l i)) (el A l[i]?) S := by
  intro d
  induction d with
  | zero =>
    intro m k hk hm
    obtain ⟨m, rfl⟩ : ∃ m', m = m' + 1 := ⟨m - 1, by omega⟩
    have hk : k = i := by omega
    subst hk
    rw [f_X10_insert_31, if_pos (Int32.le_refl _)]
  | succ d ih =>
    intro m k hk hm
    obtain ⟨m, rfl⟩ : ∃ m', m = m' + 1 := ⟨m - 1, by omega⟩
    have kl : k < l.length := by omega
    have e1 : l[k]? = some l[k] := List.getElem?_eq_getElem kl
    have e2 : pvI l (k + 1) = some l[k] := by
      unfold pvI
      rw [if_neg (by omega)]; exact e1
    have hy : l[k] < Tn T := hl _ (List.getElem_mem kl)
    have := ih m (k + 1) (by omega) (by omega)
    rw [e2] at this
    rw [f_X10_insert_31, if_neg (nI_ge (by omega) hi31), e1, el_some, if_neg (fun z => by cases z), t.g12 h hy, qqx, hs k _ e1, nI_1]
    exact this
theorem c_link (hA : KA A ex K S) (he : ex 0 e) (hp : ex 0 p) (hpv : ∀ y, pv = some y → ex 0 y) (hnx : ∀ y, nx = some y → ex 0 y) (h8 : K.2 0 e 8 = ro 0 (Pp9 b p)) (h9 : K.2 0 e 9 = ro 0 (Ph9 b p)) : ∃ S' K', f_X10_link (A 50 0) (some (A 0 e)) (el A pv) (el A nx) S = some S' ∧ KA A ex K' S' ∧ kB F3 lkR K K' ∧ (∀ x, K'.2 0 x 8 = K.2 0 x 8 ∧ K'.2 0 x 9 = K.2 0 x 9) ∧ (∀ x, K'.2 0 x 13 = if nx = some x then ro 0 pv else K.2 0 x 13) ∧ (∀ x, K'.2 0 x 12 = if pv = some x then ro 0 nx else K.2 0 x 12) ∧ (∀ x, K'.2 0 x 10 = if pv = none ∧ b = false ∧ x = p then ro 0 nx else K.2 0 x 10) ∧ ∀ x, K'.2 0 x 11 = if pv = none ∧ b = true ∧ x = p then ro 0 nx else K.2 0 x 11 := by
  have st : ∃ S1 K1, f_X10_link (A 50 0) (some (A 0 e)) (el A pv) (el A nx) S = f_X10_link_9 (A 50 0) (some (A 0 e)) (el A pv) (el A nx) S1 ∧ KA A ex K1 S1 ∧ kB F3 lkR K K1 ∧ (∀ x, K1.2 0 x 13 = if nx = some x then ro 0 pv else K.2 0 x 13) ∧ ∀ x j, j ≠ 13 → K1.2 0 x j = K.2 0 x j := by
    unfold f_X10_link
    cases nx with
    | none =>
      rw [if_pos (el_none A)]
      exact ⟨S, K, rfl, hA, kB.rf K, fun x => (if_neg (fun z => by cases z)).symm, fun _ _ _ => rfl⟩
    | some z =>
      obtain ⟨S1, e1, h1⟩ := hA.PR (k := 0) (i := z) (t := 3) (j := 13) (hnx z rfl) rfl (by decide) (ro 0 pv) (fun r w => by
        cases pv with
        | none => cases w
        | some y => cases w; exact hpv y rfl)
      rw [el_kp] at e1
      rw [el_some, if_neg (fun w => by cases w), e1, qqx]
      refine ⟨S1, _, rfl, h1, (kB.rf K).R ⟨rfl, by decide, by decide⟩, fun x => ?_, fun x j hj => kwR_row (by omega)⟩
      by_cases c : x = z
      · rw [c, if_pos rfl, kwR_ss]
      · rw [if_neg (fun w => c (Option.some.inj w).symm), kwR_row (by omega)]
  obtain ⟨S1, K1, e1, h1, b1, f13, fo⟩ := st
  have hv : ∀ r, ro 0 nx = some r → ex r.1 r.2 := fun r w => by
    cases nx with
    | none => cases w
    | some y => cases w; exact hnx y rfl
  rw [e1]
  unfold f_X10_link_9 f_X10_link_54
  cases pv with
  | none =>
    have g8 : gR S1 (some (A 0 e)) 3 8 = some (el A (Pp9 b p)) := by rw [h1.R 0 3 he rfl, fo e 8 (by decide), h8, el_kp]
    have g9 : gR S1 (some (A 0 e)) 3 9 = some (el A (Ph9 b p)) := by rw [h1.R 0 3 he rfl, fo e 9 (by decide), h9, el_kp]
    rw [if_pos (el_none A), g8, g9, qqx]
    cases b with
    | false =>
      obtain ⟨S2, e2, h2⟩ := h1.PR (k := 0) (i := p) (t := 3) (j := 10) hp rfl (by decide) (ro 0 nx) hv
      rw [el_kp] at e2
      rw [show el A (Pp9 false p) = some (A 0 p) from rfl, if_neg (fun w => by cases w), qqx, e2, qqx]
      refine ⟨S2, _, rfl, h2, b1.R ⟨rfl, by decide, by decide⟩, fun x => ⟨?_, ?_⟩, fun x => ?_, fun x => ?_, fun x => ?_, fun x => ?_⟩
      · rw [kwR_row (by omega), fo x 8 (by decide)]
      · rw [kwR_row (by omega), fo x 9 (by decide)]
      · rw [kwR_row (by omega), f13]
      · rw [kwR_row (by omega), fo x 12 (by decide), if_neg (fun w => by cases w)]
      · by_cases c : x = p
        · rw [c, kwR_ss, if_pos ⟨rfl, rfl, rfl⟩]
        · rw [kwR_row (by omega), fo x 10 (by decide), if_neg (fun w => c w.2.2)]
      · rw [kwR_row (by omega), fo x 11 (by decide), if_neg (fun w => by cases w.2.1)]
    | true =>
      obtain ⟨S2, e2, h2⟩ := h1.PR (k := 0) (i := p) (t := 3) (j := 11) hp rfl (by decide) (ro 0 nx) hv
      rw [el_kp] at e2
      rw [if_pos (show el A (Pp9 true p) = none from rfl), qqx, show el A (Ph9 true p) = some (A 0 p) from rfl, if_neg (fun w => by cases w), qqx, e2, qqx]
      refine ⟨S2, _, rfl, h2, b1.R ⟨rfl, by decide, by decide⟩, fun x => ⟨?_, ?_⟩, fun x => ?_, fun x => ?_, fun x => ?_, fun x => ?_⟩
      · rw [kwR_row (by omega), fo x 8 (by decide)]
      · rw [kwR_row (by omega), fo x 9 (by decide)]
      · rw [kwR_row (by omega), f13]
      · rw [kwR_row (by omega), fo x 12 (by decide), if_neg (fun w => by cases w)]
      · rw [kwR_row (by omega), fo x 10 (by decide), if_neg (fun w => by cases w.2.1)]
      · by_cases c : x = p
        · rw [c, kwR_ss, if_pos ⟨rfl, rfl, rfl⟩]
        · rw [kwR_row (by omega), fo x 11 (by decide), if_neg (fun w => c w.2.2)]
  | some y =>
    obtain ⟨S2, e2, h2⟩ := h1.PR (k := 0) (i := y) (t := 3) (j := 12) (hpv y rfl) rfl (by decide) (ro 0 nx) hv
    rw [el_kp] at e2
    rw [el_some, if_neg (fun w => by cases w), e2, qqx]
    refine ⟨S2, _, rfl, h2, b1.R ⟨rfl, by decide, by decide⟩, fun x => ⟨?_, ?_⟩, fun x => ?_, fun x => ?_, fun x => ?_, fun x => ?_⟩
    · rw [kwR_row (by omega), fo x 8 (by decide)]
    · rw [kwR_row (by omega), fo x 9 (by decide)]
    · rw [kwR_row (by omega), f13]
    · by_cases c : x = y
      · rw [c, kwR_ss, if_pos rfl]
      · rw [kwR_row (by omega), fo x 12 (by decide), if_neg (fun w => c (Option.some.inj w).symm)]
    · rw [kwR_row (by omega), fo x 10 (by decide), if_neg (fun w => by cases w.1)]
    · rw [kwR_row (by omega), fo x 11 (by decide), if_neg (fun w => by cases w.1)]
theorem c_insW (hA : KA A ex K S) (x50 : ex 50 0) (he : ex 0 e) (hp : ex 0 p) (hpv : ∀ y, pv = some y → ex 0 y ∧ y ≠ e) (hnx : ∀ y, nx = some y → ex 0 y ∧ y ≠ e) : ∃ S1 K1, f_X10_insert_60 (A 50 0) (some (A 0 e)) (el A (Pp9 b p)) (el A (Ph9 b p)) (el A pv) (el A nx) S = (f_X10_layOut (A 50 0) S1).bind (fun v8 => some v8) ∧ KA A ex K1 S1 ∧ kB F3 lkR K K1 ∧ (∀ x, K1.2 0 x 8 = if x = e then ro 0 (Pp9 b p) else K.2 0 x 8) ∧ (∀ x, K1.2 0 x 9 = if x = e then ro 0 (Ph9 b p) else K.2 0 x 9) ∧ (∀ x, K1.2 0 x 12 = if x = e then ro 0 nx else if pv = some x then some (0, e) else K.2 0 x 12) ∧ (∀ x, K1.2 0 x 13 = if x = e then ro 0 pv else if nx = some x then some (0, e) else K.2 0 x 13) ∧ (∀ x, K1.2 0 x 10 = if pv = none ∧ b = false ∧ x = p then some (0, e) else K.2 0 x 10) ∧ ∀ x, K1.2 0 x 11 = if pv = none ∧ b = true ∧ x = p then some (0, e) else K.2 0 x 11 := by
  have hv1 : ∀ r, ro 0 (Pp9 b p) = some r → ex r.1 r.2 := fun r w => by
    cases b with
    | true => cases w
    | false => cases w; exact hp
  have hv2 : ∀ r, ro 0 (Ph9 b p) = some r → ex r.1 r.2 := fun r w => by
    cases b with
    | true => cases w; exact hp
    | false => cases w
  obtain ⟨S1, e1, h1⟩ := hA.PR (k := 0) (i := e) (t := 3) (j := 8) he rfl (by decide) (ro 0 (Pp9 b p)) hv1
  obtain ⟨S2, e2, h2⟩ := h1.PR (k := 0) (i := e) (t := 3) (j := 9) he rfl (by decide) (ro 0 (Ph9 b p)) hv2
  rw [el_kp] at e1 e2
  obtain ⟨S3, K3, e3, h3, b3, f3, f313, f312, f310, f311⟩ := c_link (b := b) (p := p) (e := e) (pv := pv) (nx := some e) h2 he hp (fun y hy => (hpv y hy).1) (fun y hy => by cases hy; exact he) (by rw [kwR_row (by omega), kwR_ss]) (by rw [kwR_ss])
  have k38 : K3.2 0 e 8 = ro 0 (Pp9 b p) := by rw [(f3 e).1, kwR_row (by omega), kwR_ss]
  have k39 : K3.2 0 e 9 = ro 0 (Ph9 b p) := by rw [(f3 e).2, kwR_ss]
  obtain ⟨S4, K4, e4, h4, b4, f4, f413, f412, f410, f411⟩ := c_link (b := b) (p := p) (e := e) (pv := some e) (nx := nx) h3 he hp (fun y hy => by cases hy; exact he) (fun y hy => (hnx y hy).1) k38 k39
  have bb : kB F3 lkR K (kwR (kwR K 0 e 8 (ro 0 (Pp9 b p))) 0 e 9 (ro 0 (Ph9 b p))) := ((kB.rf K).R ⟨rfl, by decide, by decide⟩).R ⟨rfl, by decide, by decide⟩
  refine ⟨S4, K4, ?_, h4, (bb.tr b3).tr b4, fun x => ?_, fun x => ?_, fun x => ?_, fun x => ?_, fun x => ?_, fun x => ?_⟩
  · unfold f_X10_insert_60
    have e3' : f_X10_link (A 50 0) (some (A 0 e)) (el A pv) (some (A 0 e)) S2 = some S3 := e3
    have e4' : f_X10_link (A 50 0) (some (A 0 e)) (some (A 0 e)) (el A nx) S3 = some S4 := e4
    rw [e1, qqx, e2, qqx, h2.Rc 50 10 x50 rfl, qqx, e3', qqx, h3.Rc 50 10 x50 rfl, qqx, e4', qqx, h4.Rc 50 10 x50 rfl, qqx]
  · rw [(f4 x).1, (f3 x).1]
    by_cases c : x = e
    · rw [if_pos c, c, kwR_row (by omega), kwR_ss]
    · rw [if_neg c, kwR_row (by omega), kwR_row (by omega)]
  · rw [(f4 x).2, (f3 x).2]
    by_cases c : x = e
    · rw [if_pos c, c, kwR_ss]
    · rw [if_neg c, kwR_row (by omega), kwR_row (by omega)]
  · rw [f412]
    by_cases c : x = e
    · rw [if_pos c, c, if_pos rfl]
    · rw [if_neg c, if_neg (fun w => c (Option.some.inj w).symm), f312, kwR_row (by omega), kwR_row (by omega)]
      rfl
  · rw [f413]
    by_cases c : x = e
    · rw [if_pos c, c, if_neg (fun w => (hnx e w).2 rfl), f313, if_pos rfl]
    · rw [if_neg c]
      by_cases d : nx = some x
      · rw [if_pos d, if_pos d]; rfl
      · rw [if_neg d, if_neg d, f313, if_neg (fun w => c (Option.some.inj w).symm), kwR_row (by omega), kwR_row (by omega)]
  · rw [f410, if_neg (fun w => by cases w.1), f310, kwR_row (by omega), kwR_row (by omega)]
    rfl
  · rw [f411, if_neg (fun w => by cases w.1), f311, kwR_row (by omega), kwR_row (by omega)]
    rfl
theorem KT_ins (hw : Tw T) (h : inH T b e p i) (t : KT T ex K) (fr : kB F3 lkR K K1) (f8 : ∀ x, K1.2 0 x 8 = if x = e then ro 0 (Pp9 b p) else K.2 0 x 8) (f9 : ∀ x, K1.2 0 x 9 = if x = e then ro 0 (Ph9 b p) else K.2 0 x 9) (f12 : ∀ x, K1.2 0 x 12 = if x = e then ro 0 (Tls T b p)[i]? else if pvI (Tls T b p) i = some x then some (0, e) else K.2 0 x 12) (f13 : ∀ x, K1.2 0 x 13 = if x = e then ro 0 (pvI (Tls T b p) i) else if (Tls T b p)[i]? = some x then some (0, e) else K.2 0 x 13) (f10 : ∀ x, K1.2 0 x 10 = if pvI (Tls T b p) i = none ∧ b = false ∧ x = p then some (0, e) else K.2 0 x 10) (f11 : ∀ x, K1.2 0 x 11 = if pvI (Tls T b p) i = none ∧ b = true ∧ x = p then some (0, e) else K.2 0 x 11) : KT (Tis T b e p i) ex K1 := by
  have oI : ∀ k x j, K1.1 k x j = K.1 k x j := fun k x j => fr.1 _ _ _ (fun z => z)
  have oR : ∀ k x j, ¬ lkR k x j → K1.2 k x j = K.2 k x j := fr.2
  obtain ⟨⟨n1, n2⟩, n3⟩ := Tis_nx hw h
  obtain ⟨⟨he, hp, he0⟩, ⟨h1, h2⟩, hta, hts, hi⟩ := id h
  have hpe : p ≠ e := fun z => by rw [z, TA_s hw he] at hta; cases hta
  refine ⟨fun x hx => ?_, ?_⟩
  · obtain ⟨y1, y2, y3, y4, y5, y6, y7, y8, y9, y10, y11, y12, y13, y14⟩ := t.1 x hx
    refine ⟨y1, by rw [oI]; exact y2, by rw [oI]; exact y3, by rw [oI]; exact y4, by rw [oI]; exact y5, ?_, ?_, ?_, ?_, ?_, ?_, by rw [oR _ _ _ (by unfold lkR; omega)]; exact y12, by rw [oR _ _ _ (by unfold lkR; omega)]; exact y13, by rw [oR _ _ _ (by unfold lkR; omega)]; exact y14⟩
    · rw [f8, Tis_p]
      by_cases c : x = e
      · rw [if_pos c]
        cases b with
        | false => rw [if_pos ⟨c, rfl⟩]; rfl
        | true => rw [if_neg (fun z => by cases z.2), c, h1]; rfl
      · rw [if_neg c, if_neg (fun z => c z.1)]; exact y6
    · rw [f9, Tis_h]
      by_cases c : x = e
      · rw [if_pos c]
        cases b with
        | false => rw [if_neg (fun z => by cases z.2), c, h2]; rfl
        | true => rw [if_pos ⟨c, rfl⟩]; rfl
      · rw [if_neg c, if_neg (fun z => c z.1)]; exact y7
    · rw [f10, Tis_c]
      by_cases c : x = p ∧ b = false
      · have el' : Tls T b p = Tc T p := by unfold Tls; rw [c.2]; exact if_neg (by decide)
        rw [el'] at hi ⊢
        rw [if_pos c, c.1, ins_hd _ hi, ← c.1, y8, c.1]
        by_cases d : pvI (Tc T p) i = none
        · rw [if_pos ⟨d, c.2, rfl⟩, if_pos d]; rfl
        · rw [if_neg (fun z => d z.1), if_neg d]
      · rw [if_neg (fun z => c ⟨z.2.2, z.2.1⟩), if_neg c]; exact y8
    · rw [f11, Tis_t]
      by_cases c : x = p ∧ b = true
      · have el' : Tls T b p = Tt T p := by unfold Tls; rw [c.2]; exact if_pos rfl
        rw [el'] at hi ⊢
        rw [if_pos c, c.1, ins_hd _ hi, ← c.1, y9, c.1]
        by_cases d : pvI (Tt T p) i = none
        · rw [if_pos ⟨d, c.2, rfl⟩, if_pos d]; rfl
        · rw [if_neg (fun z => d z.1), if_neg d]
      · rw [if_neg (fun z => c ⟨z.2.2, z.2.1⟩), if_neg c]; exact y9
    · rw [f12]
      by_cases c : x = e
      · rw [if_pos c, c, n1]
      · rw [if_neg c, (n3 x hx c).1]
        by_cases d : pvI (Tls T b p) i = some x
        · rw [if_pos d, if_pos d]; rfl
        · rw [if_neg d, if_neg d]; exact y10
    · rw [f13]
      by_cases c : x = e
      · rw [if_pos c, c, n2]
      · rw [if_neg c, (n3 x hx c).2]
        by_cases d : (Tls T b p)[i]? = some x
        · rw [if_pos d, if_pos d]; rfl
        · rw [if_neg d, if_neg d]; exact y11
  · obtain ⟨y1, y2, y3, y4, y5, y6⟩ := t.2
    exact ⟨y1, y2, by rw [oI]; exact y3, by rw [oR _ _ _ (by unfold lkR; omega)]; exact y4, by rw [oR _ _ _ (by unfold lkR; omega)]; exact y5, fun x hx => by rw [oR _ _ _ (by unfold lkR; omega)]; exact y6 x hx⟩
theorem r_flg (j : J0 T G L ex K σ v) (sb : sB xtL [49] σ σ2) : f_flags σ2 = some (nI (fl2 (bt (gAl G σ) 14) (bt (gAl G σ) 15))) := by
  have o1 : σ2.1 25 = σ.1 25 := sb.1 25 (by decide)
  have ru : RU σ2 (Gr G) (Gse G) := RU.sB j.2.1.1.ru sb (by decide) (by decide)
  have f := r_flags ru
  rw [o1] at f
  have ft := j.2.1.2.2.2.2.1
  have hb : ∀ i, 16 ≤ i → i < 32 → bt (gAl G σ) i = false := fun i h1 h2 => orF_bf (fun r hr => (ft _ (j.2.1.1.e hr).2).2.2.2 i h1 h2)
  rw [f]
  exact congrArg some (fl2_of hb)
theorem mv_both (hw : Tw T) (hw' : Tw T') (j : J0 T G L ex K σ v) (hn : Tn T' = Tn T) (hsh : Ts T' = Ts T) (hD : ∀ x, x < Tn T → TD T x = true → TD T' x = true) (hnew : ∀ x, x < Tn T → TD T' x = true → TD T x = false → x = e ∨ TB T' e x = true) (he : e < Tn T) (hA1 : KA A ex K1 S1) (t1 : KT T' ex K1) (fr : kB F3 lkR K K1) (sb2 : sB xtL [] σ σ2) (s55 : σ2.1 55 = σ.1 55) (s4 : σ2.1 4 = σ.1 4) (rt2 : RT T' σ2) {pp tt : Option Nat} {tc : Int32} (hpp : ∀ y, pp = some y → y < Tn T) (htt : ∀ y, tt = some y → y < Tn T) (htc : tcO T' tt tc) (hv : v + 1 < 2 ^ 31) : ∃ S2 S3 K3 σ5 σ6, f_X10_layOut (A 50 0) S1 = some S2 ∧ gR S2 (some (A 0 e)) 3 12 = some (el A (Tnx T' e)) ∧ gR S2 (some (A 0 e)) 3 15 = some (el A (TH T' e)) ∧ rc S2 (some (A 49 0)) 11 = some (A 49 0) ∧ f_X11_markMove (A 49 0) (some (A 0 e)) (el A (Tnx T' e)) (el A pp) (el A tt) S2 = some S3 ∧ f_markWith (nI e) σ2 = some σ5 ∧ f_sibling (nI e) σ5 = some (qqO (Tnx T' e)) ∧ f_treeOf (nI e) σ5 = some (Tco T' e) ∧ f_markPlace (qqO (Tnx T' e)) (qqO pp) tc σ5 = some σ6 ∧ KA A ex K3 S3 ∧ J0 T' G L ex K3 σ6 (v + 1) ∧ kB xtP xtR K K3 ∧ sB xtL [49] σ σ6 := by
  have h30 := hw.n30
  have q := j.1.1
  have b1 : kB xsP xsR K K1 := fr.wd (fun _ _ _ z => z.elim) (fun k i j z => z)
  obtain ⟨S2, K2, e2, h2, q2, b2', v2, ls2, m2, f2, -⟩ := c_relay hw' hA1 t1 q.2.1 q.2.2.2 hn b1 j.2.2.2.2.2.1.1.2.2.2.2.1.1
  have he' : e < Tn T' := by omega
  have nxl : ∀ y, Tnx T' e = some y → y < Tn T' := fun y hy => Tnx_lt hw' he' hy
  have ft := j.2.1.2.2.2.2
  obtain ⟨o9, ho9, hoe⟩ := ft.2.2.1
  have k11 : K2.1 58 0 11 = b2 o9 := by rw [b2'.1 _ _ _ (by unfold xtP; omega)]; exact ho9
  have k12 : K2.1 58 0 12 = b2 (bt (gAl G σ) 15) := by rw [b2'.1 _ _ _ (by unfold xtP; omega)]; exact ft.2.2.2
  obtain ⟨S3, K3, e3, h3, c3⟩ := c_markMove hw' h2 q2 (e0 := e) (next := Tnx T' e) (p := pp) (t := tt) he' nxl (fun y hy => by rw [hn]; exact hpp y hy) (fun y hy => by rw [hn]; exact htt y hy) k11 k12
  obtain ⟨σ5, r5, rm5⟩ := r_markWith hw' rt2 he'
  have rt5 := rm5.rt rt2
  have mk2 : mkD T' σ2 := fun x hx hb => by
    rw [sb2.2 49 (by simp)] at hb
    obtain ⟨y1, y2⟩ := j.2.2.2.2.1.1 x hx hb
    exact ⟨by omega, hD x y1 y2⟩
  have sb5 : sB xtL [49] σ σ5 := (sb2.wd (fun _ h => h) (by simp)).tr (rm5.sB.wd (by simp) (by simp))
  have fl := r_flg j sb5
  obtain ⟨σ6, r6, rm6⟩ := r_markPlace hw' rt5 (rm5.mk mk2) (next := Tnx T' e) (p := pp) (t := tt) (tc := tc) fl nxl (fun y hy => by rw [hn]; exact hpp y hy) htc
  have rm := rm5.tr rm6
  have cm : CMk T' (fun x => (decide (x = e) || TB T' e x) || TMm T' (bt (gAl G σ) 14) (bt (gAl G σ) 15) (Tnx T' e) pp tt x) K2 K3 := c3.cg (fun x hx hd => by
    unfold TMm
    cases hh : bt (gAl G σ) 15 with
    | true => simp
    | false => rw [hoe hh])
  have ke2 : KE T' K2 σ2 := fun y hy => by
    obtain ⟨k1, k2, k3, k4, k5, k6⟩ := j.1.2.2.1 y (by omega)
    have o : ∀ d, K1.1 0 y d = K.1 0 y d := fun d => fr.1 _ _ _ (fun z => z)
    rw [f2 1 (by decide) y, f2 2 (by decide) y, f2 3 (by decide) y, f2 4 (by decide) y, f2 5 (by decide) y, f2 6 (by decide) y, o, o, o, o, o, o, sb2.1 0 (by decide), sb2.1 1 (by decide), sb2.1 2 (by decide), sb2.1 3 (by decide), s4, sb2.1 5 (by decide)]
    exact ⟨k1, k2, k3, k4, k5, k6⟩
  obtain ⟨j', kb, sb⟩ := J0.tm hw hw' j hn (fun x hx => by rw [hsh]; exact hx) b2' q2 v2 ls2 m2 cm sb2 s55 rt2 rm ke2 (fun y h1 h2 => ⟨by rw [hsh]; exact (j.2.2.2.2.2.2.2.2.1 y h1 h2).1, by rw [s4]; exact (j.2.2.2.2.2.2.2.2.1 y h1 h2).2.2.2.2.1⟩) hD (fun x hx h1 h2 => by
    rcases hnew x hx h1 h2 with z | z
    · rw [decide_eq_true z]; rfl
    · rw [z, Bool.or_true]; rfl) hv
  exact ⟨S2, S3, K3, σ5, σ6, e2, q2.1.g12 h2 he', g15 q2.1 h2 q2.2.2.1 he', q2.2.1.r11 h2, e3, r5, r_sibling hw' rt5 he', r_treeOf hw' rt5 he', r6, h3, j', kb, sb⟩
end IN2
