set_option maxRecDepth 100000 in
theorem w_553 : Cond.methodLink "Cascadery$Animation" 3 ⟨"java/lang/Object", "<init>", "()V"⟩ ∈ BG := bg_in 553 (by decide +kernel) (by decide +kernel)
set_option maxRecDepth 100000 in
theorem w_554 : Cond.classLink "Cascadery$Animation" 18 "[[I" ∈ BG := bg_in 554 (by decide +kernel) (by decide +kernel)
set_option maxRecDepth 100000 in
theorem w_552 : Cond.code yX0_init cX0_init 1 none ∈ BG := bg_in 552 (by rfl) (by decide +kernel)
set_option maxRecDepth 100000 in
theorem w_551 : Cond.instanceMethod yX0_init ∈ BG := bg_in 551 (by decide +kernel) (by decide +kernel)
set_option maxRecDepth 100000 in
theorem w_353 : Cond.methodLink "Cascadery$Matcher" 3 ⟨"java/lang/Object", "<init>", "()V"⟩ ∈ BG := bg_in 353 (by decide +kernel) (by decide +kernel)
set_option maxRecDepth 100000 in
theorem w_462 : Cond.classLink "Cascadery$Matcher" 22 "[[I" ∈ BG := bg_in 462 (by decide +kernel) (by decide +kernel)
set_option maxRecDepth 100000 in
theorem w_352 : Cond.code yX5_init cX5_init 2 none ∈ BG := bg_in 352 (by rfl) (by decide +kernel)
set_option maxRecDepth 100000 in
theorem w_351 : Cond.instanceMethod yX5_init ∈ BG := bg_in 351 (by decide +kernel) (by decide +kernel)
set_option maxRecDepth 100000 in
theorem w_79 : Cond.methodLink "Cascadery" 3 ⟨"java/lang/Object", "<init>", "()V"⟩ ∈ BG := bg_in 79 (by decide +kernel) (by decide +kernel)
set_option maxRecDepth 100000 in
theorem w_82 : Cond.classLink "Cascadery" 9 "Cascadery$Animation" ∈ BG := bg_in 82 (by decide +kernel) (by decide +kernel)
set_option maxRecDepth 100000 in
theorem w_84 : Cond.classLink "Cascadery" 15 "Cascadery$Listener" ∈ BG := bg_in 84 (by decide +kernel) (by decide +kernel)
set_option maxRecDepth 100000 in
theorem w_86 : Cond.classLink "Cascadery" 21 "Cascadery$Style" ∈ BG := bg_in 86 (by decide +kernel) (by decide +kernel)
theorem cn_0 : Cond.methodLinkNest "Cascadery" 27 yX9_init "Cascadery" ∈ cNest := List.mem_of_getElem? (i := 0) rfl
set_option maxRecDepth 100000 in
theorem w_142 : Cond.classLink "Cascadery" 35 "Cascadery$Trees" ∈ BG := bg_in 142 (by decide +kernel) (by decide +kernel)
set_option maxRecDepth 100000 in
theorem w_143 : Cond.instantiable "Cascadery$Trees" 5 ∈ BG := bg_in 143 (by decide +kernel) (by decide +kernel)
set_option maxRecDepth 100000 in
theorem w_144 : Cond.methodLink "Cascadery" 37 yX10_init ∈ BG := bg_in 144 (by decide +kernel) (by decide +kernel)
set_option maxRecDepth 100000 in
theorem w_348 : Cond.classLink "Cascadery" 38 "Cascadery$Matcher" ∈ BG := bg_in 348 (by decide +kernel) (by decide +kernel)
set_option maxRecDepth 100000 in
theorem w_349 : Cond.instantiable "Cascadery$Matcher" 7 ∈ BG := bg_in 349 (by decide +kernel) (by decide +kernel)
set_option maxRecDepth 100000 in
theorem w_350 : Cond.methodLink "Cascadery" 40 yX5_init ∈ BG := bg_in 350 (by decide +kernel) (by decide +kernel)
set_option maxRecDepth 100000 in
theorem w_488 : Cond.classLink "Cascadery" 43 "Cascadery$Cascade" ∈ BG := bg_in 488 (by decide +kernel) (by decide +kernel)
set_option maxRecDepth 100000 in
theorem w_489 : Cond.instantiable "Cascadery$Cascade" 14 ∈ BG := bg_in 489 (by decide +kernel) (by decide +kernel)
set_option maxRecDepth 100000 in
theorem w_490 : Cond.methodLink "Cascadery" 45 yX1_init ∈ BG := bg_in 490 (by decide +kernel) (by decide +kernel)
set_option maxRecDepth 100000 in
theorem w_549 : Cond.instantiable "Cascadery$Animation" 5 ∈ BG := bg_in 549 (by decide +kernel) (by decide +kernel)
theorem cn_3 : Cond.methodLinkNest "Cascadery" 60 yX0_init "Cascadery" ∈ cNest := List.mem_of_getElem? (i := 3) rfl
set_option maxRecDepth 100000 in
theorem w_78 : Cond.code yX11_init cX11_init 5 none ∈ BG := bg_in 78 (by rfl) (by decide +kernel)
set_option maxRecDepth 100000 in
theorem w_77 : Cond.instanceMethod yX11_init ∈ BG := bg_in 77 (by decide +kernel) (by decide +kernel)
theorem dX0_init_0 : decode cX0_init 0 = .ok (.aload_n 0, 1) := by decide +kernel
theorem dX0_init_1 : decode cX0_init 1 = .ok (.invokespecial 3, 3) := by decide +kernel
theorem dX0_init_4 : decode cX0_init 4 = .ok (.aload_n 0, 1) := by decide +kernel
theorem dX0_init_5 : decode cX0_init 5 = .ok (.bipush 10, 2) := by decide +kernel
theorem dX0_init_7 : decode cX0_init 7 = .ok (.putfield 9, 3) := by decide +kernel
theorem dX0_init_10 : decode cX0_init 10 = .ok (.aload_n 0, 1) := by decide +kernel
theorem dX0_init_11 : decode cX0_init 11 = .ok (.iconst 1, 1) := by decide +kernel
theorem dX0_init_12 : decode cX0_init 12 = .ok (.putfield 15, 3) := by decide +kernel
theorem dX0_init_15 : decode cX0_init 15 = .ok (.aload_n 0, 1) := by decide +kernel
theorem dX0_init_16 : decode cX0_init 16 = .ok (.iconst 5, 1) := by decide +kernel
theorem dX0_init_17 : decode cX0_init 17 = .ok (.bipush 11, 2) := by decide +kernel
theorem dX0_init_19 : decode cX0_init 19 = .ok (.multianewarray 18 2, 4) := by decide +kernel
theorem dX0_init_23 : decode cX0_init 23 = .ok (.putfield 20, 3) := by decide +kernel
theorem dX0_init_26 : decode cX0_init 26 = .ok (.aload_n 0, 1) := by decide +kernel
theorem dX0_init_27 : decode cX0_init 27 = .ok (.iconst 5, 1) := by decide +kernel
theorem dX0_init_28 : decode cX0_init 28 = .ok (.newarray .int, 2) := by decide +kernel
theorem dX0_init_30 : decode cX0_init 30 = .ok (.putfield 23, 3) := by decide +kernel
theorem dX0_init_33 : decode cX0_init 33 = .ok (.return_, 1) := by decide +kernel
theorem dX5_init_0 : decode cX5_init 0 = .ok (.aload_n 0, 1) := by decide +kernel
theorem dX5_init_1 : decode cX5_init 1 = .ok (.invokespecial 3, 3) := by decide +kernel
theorem dX5_init_4 : decode cX5_init 4 = .ok (.aload_n 0, 1) := by decide +kernel
theorem dX5_init_5 : decode cX5_init 5 = .ok (.bipush 30, 2) := by decide +kernel
theorem dX5_init_7 : decode cX5_init 7 = .ok (.anewarray 9, 3) := by decide +kernel
theorem dX5_init_10 : decode cX5_init 10 = .ok (.putfield 11, 3) := by decide +kernel
theorem dX5_init_13 : decode cX5_init 13 = .ok (.aload_n 0, 1) := by decide +kernel
theorem dX5_init_14 : decode cX5_init 14 = .ok (.new 9, 3) := by decide +kernel
theorem dX5_init_17 : decode cX5_init 17 = .ok (.dup, 1) := by decide +kernel
theorem dX5_init_18 : decode cX5_init 18 = .ok (.invokespecial 17, 3) := by decide +kernel
theorem dX5_init_21 : decode cX5_init 21 = .ok (.putfield 18, 3) := by decide +kernel
theorem dX5_init_24 : decode cX5_init 24 = .ok (.aload_n 0, 1) := by decide +kernel
theorem dX5_init_25 : decode cX5_init 25 = .ok (.bipush 31, 2) := by decide +kernel
theorem dX5_init_27 : decode cX5_init 27 = .ok (.bipush 30, 2) := by decide +kernel
theorem dX5_init_29 : decode cX5_init 29 = .ok (.multianewarray 22 2, 4) := by decide +kernel
theorem dX5_init_33 : decode cX5_init 33 = .ok (.putfield 24, 3) := by decide +kernel
theorem dX5_init_36 : decode cX5_init 36 = .ok (.aload_n 0, 1) := by decide +kernel
theorem dX5_init_37 : decode cX5_init 37 = .ok (.bipush 31, 2) := by decide +kernel
theorem dX5_init_39 : decode cX5_init 39 = .ok (.newarray .int, 2) := by decide +kernel
theorem dX5_init_41 : decode cX5_init 41 = .ok (.putfield 27, 3) := by decide +kernel
theorem dX5_init_44 : decode cX5_init 44 = .ok (.aload_n 0, 1) := by decide +kernel
theorem dX5_init_45 : decode cX5_init 45 = .ok (.bipush 31, 2) := by decide +kernel
theorem dX5_init_47 : decode cX5_init 47 = .ok (.newarray .int, 2) := by decide +kernel
theorem dX5_init_49 : decode cX5_init 49 = .ok (.putfield 31, 3) := by decide +kernel
theorem dX5_init_52 : decode cX5_init 52 = .ok (.aload_n 0, 1) := by decide +kernel
theorem dX5_init_53 : decode cX5_init 53 = .ok (.aload_n 1, 1) := by decide +kernel
theorem dX5_init_54 : decode cX5_init 54 = .ok (.putfield 34, 3) := by decide +kernel
theorem dX5_init_57 : decode cX5_init 57 = .ok (.return_, 1) := by decide +kernel
theorem dX11_init_0 : decode cX11_init 0 = .ok (.aload_n 0, 1) := by decide +kernel
theorem dX11_init_1 : decode cX11_init 1 = .ok (.invokespecial 3, 3) := by decide +kernel
theorem dX11_init_4 : decode cX11_init 4 = .ok (.aload_n 0, 1) := by decide +kernel
theorem dX11_init_5 : decode cX11_init 5 = .ok (.iconst 4, 1) := by decide +kernel
theorem dX11_init_6 : decode cX11_init 6 = .ok (.anewarray 9, 3) := by decide +kernel
theorem dX11_init_9 : decode cX11_init 9 = .ok (.putfield 11, 3) := by decide +kernel
theorem dX11_init_12 : decode cX11_init 12 = .ok (.aload_n 0, 1) := by decide +kernel
theorem dX11_init_13 : decode cX11_init 13 = .ok (.bipush 6, 2) := by decide +kernel
theorem dX11_init_15 : decode cX11_init 15 = .ok (.anewarray 15, 3) := by decide +kernel
theorem dX11_init_18 : decode cX11_init 18 = .ok (.putfield 17, 3) := by decide +kernel
theorem dX11_init_21 : decode cX11_init 21 = .ok (.aload_n 0, 1) := by decide +kernel
theorem dX11_init_22 : decode cX11_init 22 = .ok (.bipush 30, 2) := by decide +kernel
theorem dX11_init_24 : decode cX11_init 24 = .ok (.anewarray 21, 3) := by decide +kernel
theorem dX11_init_27 : decode cX11_init 27 = .ok (.putfield 23, 3) := by decide +kernel
theorem dX11_init_30 : decode cX11_init 30 = .ok (.aload_n 0, 1) := by decide +kernel
theorem dX11_init_31 : decode cX11_init 31 = .ok (.new 21, 3) := by decide +kernel
theorem dX11_init_34 : decode cX11_init 34 = .ok (.dup, 1) := by decide +kernel
theorem dX11_init_35 : decode cX11_init 35 = .ok (.invokespecial 27, 3) := by decide +kernel
theorem dX11_init_38 : decode cX11_init 38 = .ok (.putfield 28, 3) := by decide +kernel
theorem dX11_init_41 : decode cX11_init 41 = .ok (.aload_n 0, 1) := by decide +kernel
theorem dX11_init_42 : decode cX11_init 42 = .ok (.new 21, 3) := by decide +kernel
theorem dX11_init_45 : decode cX11_init 45 = .ok (.dup, 1) := by decide +kernel
theorem dX11_init_46 : decode cX11_init 46 = .ok (.invokespecial 27, 3) := by decide +kernel
theorem dX11_init_49 : decode cX11_init 49 = .ok (.putfield 32, 3) := by decide +kernel
theorem dX11_init_52 : decode cX11_init 52 = .ok (.new 35, 3) := by decide +kernel
theorem dX11_init_55 : decode cX11_init 55 = .ok (.dup, 1) := by decide +kernel
theorem dX11_init_56 : decode cX11_init 56 = .ok (.invokespecial 37, 3) := by decide +kernel
theorem dX11_init_59 : decode cX11_init 59 = .ok (.astore_n 1, 1) := by decide +kernel
theorem dX11_init_60 : decode cX11_init 60 = .ok (.new 38, 3) := by decide +kernel
theorem dX11_init_63 : decode cX11_init 63 = .ok (.dup, 1) := by decide +kernel
theorem dX11_init_64 : decode cX11_init 64 = .ok (.aload_n 1, 1) := by decide +kernel
theorem dX11_init_65 : decode cX11_init 65 = .ok (.invokespecial 40, 3) := by decide +kernel
theorem dX11_init_68 : decode cX11_init 68 = .ok (.astore_n 2, 1) := by decide +kernel
theorem dX11_init_69 : decode cX11_init 69 = .ok (.new 43, 3) := by decide +kernel
theorem dX11_init_72 : decode cX11_init 72 = .ok (.dup, 1) := by decide +kernel
theorem dX11_init_73 : decode cX11_init 73 = .ok (.aload_n 1, 1) := by decide +kernel
theorem dX11_init_74 : decode cX11_init 74 = .ok (.aload_n 2, 1) := by decide +kernel
theorem dX11_init_75 : decode cX11_init 75 = .ok (.invokespecial 45, 3) := by decide +kernel
theorem dX11_init_78 : decode cX11_init 78 = .ok (.astore_n 3, 1) := by decide +kernel
theorem dX11_init_79 : decode cX11_init 79 = .ok (.aload_n 0, 1) := by decide +kernel
theorem dX11_init_80 : decode cX11_init 80 = .ok (.aload_n 1, 1) := by decide +kernel
theorem dX11_init_81 : decode cX11_init 81 = .ok (.putfield 48, 3) := by decide +kernel
theorem dX11_init_84 : decode cX11_init 84 = .ok (.aload_n 0, 1) := by decide +kernel
theorem dX11_init_85 : decode cX11_init 85 = .ok (.aload_n 2, 1) := by decide +kernel
theorem dX11_init_86 : decode cX11_init 86 = .ok (.putfield 52, 3) := by decide +kernel
theorem dX11_init_89 : decode cX11_init 89 = .ok (.aload_n 0, 1) := by decide +kernel
theorem dX11_init_90 : decode cX11_init 90 = .ok (.aload_n 3, 1) := by decide +kernel
theorem dX11_init_91 : decode cX11_init 91 = .ok (.putfield 56, 3) := by decide +kernel
theorem dX11_init_94 : decode cX11_init 94 = .ok (.iconst 0, 1) := by decide +kernel
theorem dX11_init_95 : decode cX11_init 95 = .ok (.istore 4, 2) := by decide +kernel
theorem dX11_init_97 : decode cX11_init 97 = .ok (.iload 4, 2) := by decide +kernel
theorem dX11_init_99 : decode cX11_init 99 = .ok (.iconst 4, 1) := by decide +kernel
theorem dX11_init_100 : decode cX11_init 100 = .ok (.if_icmp .ge 23, 3) := by decide +kernel
theorem dX11_init_103 : decode cX11_init 103 = .ok (.aload_n 0, 1) := by decide +kernel
theorem dX11_init_104 : decode cX11_init 104 = .ok (.getfield 11, 3) := by decide +kernel
theorem dX11_init_107 : decode cX11_init 107 = .ok (.iload 4, 2) := by decide +kernel
theorem dX11_init_109 : decode cX11_init 109 = .ok (.new 9, 3) := by decide +kernel
theorem dX11_init_112 : decode cX11_init 112 = .ok (.dup, 1) := by decide +kernel
theorem dX11_init_113 : decode cX11_init 113 = .ok (.invokespecial 60, 3) := by decide +kernel
theorem dX11_init_116 : decode cX11_init 116 = .ok (.aastore, 1) := by decide +kernel
theorem dX11_init_117 : decode cX11_init 117 = .ok (.iinc 4 1, 3) := by decide +kernel
theorem dX11_init_120 : decode cX11_init 120 = .ok (.goto (-23), 3) := by decide +kernel
theorem dX11_init_123 : decode cX11_init 123 = .ok (.iconst 0, 1) := by decide +kernel
theorem dX11_init_124 : decode cX11_init 124 = .ok (.istore 4, 2) := by decide +kernel
theorem dX11_init_126 : decode cX11_init 126 = .ok (.iload 4, 2) := by decide +kernel
theorem dX11_init_128 : decode cX11_init 128 = .ok (.bipush 30, 2) := by decide +kernel
theorem dX11_init_130 : decode cX11_init 130 = .ok (.if_icmp .ge 23, 3) := by decide +kernel
theorem dX11_init_133 : decode cX11_init 133 = .ok (.aload_n 0, 1) := by decide +kernel
theorem dX11_init_134 : decode cX11_init 134 = .ok (.getfield 23, 3) := by decide +kernel
theorem dX11_init_137 : decode cX11_init 137 = .ok (.iload 4, 2) := by decide +kernel
theorem dX11_init_139 : decode cX11_init 139 = .ok (.new 21, 3) := by decide +kernel
theorem dX11_init_142 : decode cX11_init 142 = .ok (.dup, 1) := by decide +kernel
theorem dX11_init_143 : decode cX11_init 143 = .ok (.invokespecial 27, 3) := by decide +kernel
theorem dX11_init_146 : decode cX11_init 146 = .ok (.aastore, 1) := by decide +kernel
theorem dX11_init_147 : decode cX11_init 147 = .ok (.iinc 4 1, 3) := by decide +kernel
theorem dX11_init_150 : decode cX11_init 150 = .ok (.goto (-24), 3) := by decide +kernel
theorem dX11_init_153 : decode cX11_init 153 = .ok (.return_, 1) := by decide +kernel
def f_X0_init (x0 : Nat)  (σ : cS) : Option (cS) := (pI σ (some x0) 0 0 (10:Int32)).bind (fun v1 => (pI v1 (some x0) 0 1 (1:Int32)).bind (fun v2 => (pR (mna v2 5 11) (some x0) 0 3 (some (v2).2)).bind (fun v3 => (pR (na v3 20 5) (some x0) 0 4 (some (v3).2)).bind (fun v4 => some v4))))
set_option maxRecDepth 20000 in
set_option maxHeartbeats 4000000 in
theorem K_X0_init (l : Launch) (D : cD) (Φ : cG) (σ : cS) (x0 : Nat)  {q : cS} (h : f_X0_init x0  σ = some q) : Met l yX0_init (Cond.code yX0_init cX0_init 1 none :: BG) (rA 1 7 65 20) (cPc D Φ σ [cv Φ (some x0)]) (cQw D Φ q none) 7 65 (cReg Φ) := by
  refine Met.ofW (cc := cX0_init) (maxL := 1) (ret := none) (by decide) rfl ?_
  intro p e s m args below meth c s₁ B hml hv
  obtain ⟨rfl, hP, hK, hZ⟩ := hv
  have X : cX p s m [cv Φ (some x0)].toArray meth c cX0_init 1 none RX0 D Φ := cX_of B hml hK hZ
  have hin : meth.name = "<init>" := (name_of_methodNamed B.named B.method).1
  have hx := X.1
  have hb := X.2.1
  have hown := X.2.2.2.1
  have hts := X.2.2.2.2.1
  have hl := lv_entry [cv Φ (some x0)] (n := 1) (by simp only [lgs_r, lgs_i, lgs_l, lgs_0, List.length]; exact Nat.le_of_ble_eq_true rfl)
  rw [lg_entry_eq]
  generalize (lg_sl [cv Φ (some x0)] ++ List.replicate (1 - (lg_sl [cv Φ (some x0)]).length) Slot.unset).toArray = ls at hl ⊢
  simp only [lv_args_r, lv_args_i, lv_args_l, lv_args_0] at hl
  have hl : lv_has ls 1 [(0, cv Φ (some x0))] := hl
  have hS : va_S (cReg Φ) s.heap s.heap [] := va_S.rf
  show cWw p l e 1 7 65 20 s m [cv Φ (some x0)].toArray below meth c D Φ q none s.heap [] 0 0 (F0 m 0 ls [])
  have h : ((pI σ (some x0) 0 0 (10:Int32)).bind (fun v1 => (pI v1 (some x0) 0 1 (1:Int32)).bind (fun v2 => (pR (mna v2 5 11) (some x0) 0 3 (some (v2).2)).bind (fun v3 => (pR (na v3 20 5) (some x0) 0 4 (some (v3).2)).bind (fun v4 => some v4))))) = some q := h
  refine c_aload_n hx hb dX0_init_0 rfl (lv_at hl 0 rfl) ?_
  refine W.objInit hx hb hown (hts _ w_553) (hts _ w_oi) (hts _ w_oc) rfl (hl.1.trans X.2.2.1.symm) rfl dX0_init_1 (Nat.le_of_ble_eq_true rfl) (Nat.le_of_ble_eq_true rfl) ?_
  refine W.eq (g2 := F0 m 4 ls []) rfl ?_
  refine c_aload_n hx hb dX0_init_4 rfl (lv_at hl 0 rfl) ?_
  refine lv_bipush (v := (10:Int32)) hx hb dX0_init_5 (by decide) ?_
  obtain ⟨v1, hv1, h⟩ := ob h
  refine c_pI X hP hS hv1 (Nat.le_of_ble_eq_true rfl) (Nat.le_of_ble_eq_true rfl) rfl rfl (Or.inl rfl) w_555 dX0_init_7 (fun H locs hP hS => ?_)
  refine c_aload_n hx hb dX0_init_10 rfl (lv_at hl 0 rfl) ?_
  refine lv_iconst (v := (1:Int32)) hx hb dX0_init_11 (by decide) ?_
  obtain ⟨v2, hv2, h⟩ := ob h
  refine c_pI X hP hS hv2 (Nat.le_of_ble_eq_true rfl) (Nat.le_of_ble_eq_true rfl) rfl rfl (Or.inl rfl) w_556 dX0_init_12 (fun H locs hP hS => ?_)
  refine c_aload_n hx hb dX0_init_15 rfl (lv_at hl 0 rfl) ?_
  refine lv_iconst (v := (5:Int32)) hx hb dX0_init_16 (by decide) ?_
  refine lv_bipush (v := (11:Int32)) hx hb dX0_init_17 (by decide) ?_
  refine c_mna X hP hS (N := 5) (M := 11) ⟨w_554, w_141⟩ ⟨by decide, by decide⟩ rfl rfl ⟨(Nat.le_of_ble_eq_true rfl), (Nat.le_of_ble_eq_true rfl)⟩ (Nat.le_of_ble_eq_true rfl) (Nat.le_of_ble_eq_true rfl) dX0_init_19 (fun H hP hS => ?_)
  obtain ⟨v3, hv3, h⟩ := ob h
  refine c_pR X hP hS hv3 (Nat.le_of_ble_eq_true rfl) (Nat.le_of_ble_eq_true rfl) rfl (Or.inr ⟨rfl, hin, rfl⟩) w_558 dX0_init_23 (fun H locs hP hS => ?_)
  refine c_aload_n hx hb dX0_init_26 rfl (lv_at hl 0 rfl) ?_
  refine lv_iconst (v := (5:Int32)) hx hb dX0_init_27 (by decide) ?_
  refine c_newa X hP hS (N := 5) w_141 (by decide) rfl (Nat.le_of_ble_eq_true rfl) (Nat.le_of_ble_eq_true rfl) (Nat.le_of_ble_eq_true rfl) dX0_init_28 (fun H hP hS => ?_)
  obtain ⟨v4, hv4, h⟩ := ob h
  refine c_pR X hP hS hv4 (Nat.le_of_ble_eq_true rfl) (Nat.le_of_ble_eq_true rfl) rfl (Or.inr ⟨rfl, hin, rfl⟩) w_559 dX0_init_30 (fun H locs hP hS => ?_)
  obtain rfl := sj h
  exact c_wv X hP hS (Nat.le_of_ble_eq_true rfl) (Nat.le_of_ble_eq_true rfl) dX0_init_33
theorem ww_X0_init : Cond.instanceMethod yX0_init ∈ BG ∧ Cond.initialized (yX0_init).cls ∈ BG ∧ Cond.code yX0_init cX0_init 1 none ∈ BG := ⟨w_551, w_65, w_552⟩
theorem hy_X0_init : (yX0_init).cls ≠ "java/lang/invoke/MethodHandle" ∧ (yX0_init).cls ≠ "java/lang/invoke/VarHandle" ∧ (parseMethodDescriptor (yX0_init).desc).map (fun d => d.parameters.length) = some 0 := ⟨by decide, by decide, by decide +kernel⟩
def f_X5_init (x0 : Nat) (x1 : Option Nat) (σ : cS) : Option (cS) := (pR (na σ 37 30) (some x0) 5 1 (some (σ).2)).bind (fun v1 => (rc (nw v1 7) (some (v1).2) 7).bind (fun v2 => (f_X7_init v2  (nw v1 7)).bind (fun v3 => (pR v3 (some x0) 5 3 (some (v1).2)).bind (fun v4 => (pR (mna v4 31 30) (some x0) 5 4 (some (v4).2)).bind (fun v5 => (pR (na v5 20 31) (some x0) 5 5 (some (v5).2)).bind (fun v6 => (pR (na v6 20 31) (some x0) 5 6 (some (v6).2)).bind (fun v7 => (pR v7 (some x0) 5 0 x1).bind (fun v8 => some v8))))))))
set_option maxRecDepth 20000 in
set_option maxHeartbeats 4000000 in
theorem K_X5_init (l : Launch) (D : cD) (Φ : cG) (σ : cS) (x0 : Nat) (x1 : Option Nat) {q : cS} (h : f_X5_init x0 x1 σ = some q) : Met l yX5_init (Cond.code yX5_init cX5_init 2 none :: BG) (rA 3 40 1088 61) (cPc D Φ σ [cv Φ (some x0), cv Φ x1]) (cQw D Φ q none) 40 1088 (cReg Φ) := by
  refine Met.ofW (cc := cX5_init) (maxL := 2) (ret := none) (by decide) rfl ?_
  intro p e s m args below meth c s₁ B hml hv
  obtain ⟨rfl, hP, hK, hZ⟩ := hv
  have X : cX p s m [cv Φ (some x0), cv Φ x1].toArray meth c cX5_init 2 none RX5 D Φ := cX_of B hml hK hZ
  have hin : meth.name = "<init>" := (name_of_methodNamed B.named B.method).1
  have hx := X.1
  have hb := X.2.1
  have hown := X.2.2.2.1
  have hts := X.2.2.2.2.1
  have hl := lv_entry [cv Φ (some x0), cv Φ x1] (n := 2) (by simp only [lgs_r, lgs_i, lgs_l, lgs_0, List.length]; exact Nat.le_of_ble_eq_true rfl)
  rw [lg_entry_eq]
  generalize (lg_sl [cv Φ (some x0), cv Φ x1] ++ List.replicate (2 - (lg_sl [cv Φ (some x0), cv Φ x1]).length) Slot.unset).toArray = ls at hl ⊢
  simp only [lv_args_r, lv_args_i, lv_args_l, lv_args_0] at hl
  have hl : lv_has ls 2 [(0, cv Φ (some x0)), (1, cv Φ x1)] := hl
  have hS : va_S (cReg Φ) s.heap s.heap [] := va_S.rf
  show cWw p l e 3 40 1088 61 s m [cv Φ (some x0), cv Φ x1].toArray below meth c D Φ q none s.heap [] 0 0 (F0 m 0 ls [])
  have h : ((pR (na σ 37 30) (some x0) 5 1 (some (σ).2)).bind (fun v1 => (rc (nw v1 7) (some (v1).2) 7).bind (fun v2 => (f_X7_init v2  (nw v1 7)).bind (fun v3 => (pR v3 (some x0) 5 3 (some (v1).2)).bind (fun v4 => (pR (mna v4 31 30) (some x0) 5 4 (some (v4).2)).bind (fun v5 => (pR (na v5 20 31) (some x0) 5 5 (some (v5).2)).bind (fun v6 => (pR (na v6 20 31) (some x0) 5 6 (some (v6).2)).bind (fun v7 => (pR v7 (some x0) 5 0 x1).bind (fun v8 => some v8))))))))) = some q := h
  refine c_aload_n hx hb dX5_init_0 rfl (lv_at hl 0 rfl) ?_
  refine W.objInit hx hb hown (hts _ w_353) (hts _ w_oi) (hts _ w_oc) rfl (hl.1.trans X.2.2.1.symm) rfl dX5_init_1 (Nat.le_of_ble_eq_true rfl) (Nat.le_of_ble_eq_true rfl) ?_
  refine W.eq (g2 := F0 m 4 ls []) rfl ?_
  refine c_aload_n hx hb dX5_init_4 rfl (lv_at hl 0 rfl) ?_
  refine lv_bipush (v := (30:Int32)) hx hb dX5_init_5 (by decide) ?_
  refine c_newq X hP hS (ci := 7) (N := 30) (Nat.le_of_ble_eq_true rfl) rfl w_354 (by decide) rfl (Nat.le_of_ble_eq_true rfl) (Nat.le_of_ble_eq_true rfl) (Nat.le_of_ble_eq_true rfl) dX5_init_7 (fun H hP hS => ?_)
  obtain ⟨v1, hv1, h⟩ := ob h
  refine c_pR X hP hS hv1 (Nat.le_of_ble_eq_true rfl) (Nat.le_of_ble_eq_true rfl) rfl (Or.inr ⟨rfl, hin, rfl⟩) w_465 dX5_init_10 (fun H locs hP hS => ?_)
  refine c_aload_n hx hb dX5_init_13 rfl (lv_at hl 0 rfl) ?_
  refine c_new X hP hS (ci := 7) ⟨Nat.le_of_ble_eq_true rfl, by decide⟩ ⟨w_354, w_356, w_62⟩ (Nat.le_of_ble_eq_true rfl) (Nat.le_of_ble_eq_true rfl) dX5_init_14 (fun H hP hS => ?_)
  refine c_dupq hx hb dX5_init_17 ?_
  obtain ⟨v2, hv2, h⟩ := ob h
  obtain ⟨v3, hv3, h⟩ := ob h
  refine c_cw (c_runIN X (K_X7_init l D Φ (nw v1 7) v2  hv3) hv2 (Nat.le_of_ble_eq_true rfl) ⟨cn_2, ww_X7_init⟩ rfl rfl hy_X7_init rfl ⟨(Nat.le_of_ble_eq_true rfl), (Nat.le_of_ble_eq_true rfl)⟩ hP hS hl.1 (Nat.le_of_ble_eq_true rfl) dX5_init_18 rfl ⟨(Nat.le_of_ble_eq_true rfl), (Nat.le_of_ble_eq_true rfl)⟩) hS (fun H locs hP hS => ?_)
  refine W.eq (g2 := F0 m 21 ls [cv Φ (some (v1).2), cv Φ (some x0)]) rfl ?_
  obtain ⟨v4, hv4, h⟩ := ob h
  refine c_pR X hP hS hv4 (Nat.le_of_ble_eq_true rfl) (Nat.le_of_ble_eq_true rfl) rfl (Or.inl rfl) w_468 dX5_init_21 (fun H locs hP hS => ?_)
  refine c_aload_n hx hb dX5_init_24 rfl (lv_at hl 0 rfl) ?_
  refine lv_bipush (v := (31:Int32)) hx hb dX5_init_25 (by decide) ?_
  refine lv_bipush (v := (30:Int32)) hx hb dX5_init_27 (by decide) ?_
  refine c_mna X hP hS (N := 31) (M := 30) ⟨w_462, w_141⟩ ⟨by decide, by decide⟩ rfl rfl ⟨(Nat.le_of_ble_eq_true rfl), (Nat.le_of_ble_eq_true rfl)⟩ (Nat.le_of_ble_eq_true rfl) (Nat.le_of_ble_eq_true rfl) dX5_init_29 (fun H hP hS => ?_)
  obtain ⟨v5, hv5, h⟩ := ob h
  refine c_pR X hP hS hv5 (Nat.le_of_ble_eq_true rfl) (Nat.le_of_ble_eq_true rfl) rfl (Or.inr ⟨rfl, hin, rfl⟩) w_470 dX5_init_33 (fun H locs hP hS => ?_)
  refine c_aload_n hx hb dX5_init_36 rfl (lv_at hl 0 rfl) ?_
  refine lv_bipush (v := (31:Int32)) hx hb dX5_init_37 (by decide) ?_
  refine c_newa X hP hS (N := 31) w_141 (by decide) rfl (Nat.le_of_ble_eq_true rfl) (Nat.le_of_ble_eq_true rfl) (Nat.le_of_ble_eq_true rfl) dX5_init_39 (fun H hP hS => ?_)
  obtain ⟨v6, hv6, h⟩ := ob h
  refine c_pR X hP hS hv6 (Nat.le_of_ble_eq_true rfl) (Nat.le_of_ble_eq_true rfl) rfl (Or.inr ⟨rfl, hin, rfl⟩) w_471 dX5_init_41 (fun H locs hP hS => ?_)
  refine c_aload_n hx hb dX5_init_44 rfl (lv_at hl 0 rfl) ?_
  refine lv_bipush (v := (31:Int32)) hx hb dX5_init_45 (by decide) ?_
  refine c_newa X hP hS (N := 31) w_141 (by decide) rfl (Nat.le_of_ble_eq_true rfl) (Nat.le_of_ble_eq_true rfl) (Nat.le_of_ble_eq_true rfl) dX5_init_47 (fun H hP hS => ?_)
  obtain ⟨v7, hv7, h⟩ := ob h
  refine c_pR X hP hS hv7 (Nat.le_of_ble_eq_true rfl) (Nat.le_of_ble_eq_true rfl) rfl (Or.inr ⟨rfl, hin, rfl⟩) w_472 dX5_init_49 (fun H locs hP hS => ?_)
  refine c_aload_n hx hb dX5_init_52 rfl (lv_at hl 0 rfl) ?_
  refine c_aload_n hx hb dX5_init_53 rfl (lv_at hl 1 rfl) ?_
  obtain ⟨v8, hv8, h⟩ := ob h
  refine c_pR X hP hS hv8 (Nat.le_of_ble_eq_true rfl) (Nat.le_of_ble_eq_true rfl) rfl (Or.inr ⟨rfl, hin, rfl⟩) w_464 dX5_init_54 (fun H locs hP hS => ?_)
  obtain rfl := sj h
  exact c_wv X hP hS (Nat.le_of_ble_eq_true rfl) (Nat.le_of_ble_eq_true rfl) dX5_init_57
theorem ww_X5_init : Cond.instanceMethod yX5_init ∈ BG ∧ Cond.initialized (yX5_init).cls ∈ BG ∧ Cond.code yX5_init cX5_init 2 none ∈ BG := ⟨w_351, w_61, w_352⟩
theorem hy_X5_init : (yX5_init).cls ≠ "java/lang/invoke/MethodHandle" ∧ (yX5_init).cls ≠ "java/lang/invoke/VarHandle" ∧ (parseMethodDescriptor (yX5_init).desc).map (fun d => d.parameters.length) = some 1 := ⟨by decide, by decide, by decide +kernel⟩
def f_X11_init (x0 : Nat)  (σ : cS) : Option (cS) := (pR (na σ 30 4) (some x0) 11 3 (some (σ).2)).bind (fun v1 => (pR (na v1 34 6) (some x0) 11 4 (some (v1).2)).bind (fun v2 => (pR (na v2 39 30) (some x0) 11 7 (some (v2).2)).bind (fun v3 => (rc (nw v3 9) (some (v3).2) 9).bind (fun v4 => (f_X9_init v4  (nw v3 9)).bind (fun v5 => (pR v5 (some x0) 11 8 (some (v3).2)).bind (fun v6 => (rc (nw v6 9) (some (v6).2) 9).bind (fun v7 => (f_X9_init v7  (nw v6 9)).bind (fun v8 => (pR v8 (some x0) 11 9 (some (v6).2)).bind (fun v9 => (rc (nw v9 10) (some (v9).2) 10).bind (fun v10 => (f_X10_init v10  (nw v9 10)).bind (fun v11 => (rc (nw v11 5) (some (v11).2) 5).bind (fun v12 => (f_X5_init v12 ((some (v9).2)) (nw v11 5)).bind (fun v13 => (rc (nw v13 1) (some (v13).2) 1).bind (fun v14 => (f_X1_init v14 ((some (v9).2)) ((some (v11).2)) (nw v13 1)).bind (fun v15 => (pR v15 (some x0) 11 0 (some (v9).2)).bind (fun v16 => (pR v16 (some x0) 11 1 (some (v11).2)).bind (fun v17 => (pR v17 (some x0) 11 2 (some (v13).2)).bind (fun v18 => (gR v18 (some x0) 11 3).bind (fun v19 => (rc (nw v18 0) (some (v18).2) 0).bind (fun v20 => (f_X0_init v20  (nw v18 0)).bind (fun v21 => (sR v21 v19 0 (0:Int32) (some (v18).2)).bind (fun v22 => (gR v22 (some x0) 11 3).bind (fun v23 => (rc (nw v22 0) (some (v22).2) 0).bind (fun v24 => (f_X0_init v24  (nw v22 0)).bind (fun v25 => (sR v25 v23 0 (1:Int32) (some (v22).2)).bind (fun v26 => (gR v26 (some x0) 11 3).bind (fun v27 => (rc (nw v26 0) (some (v26).2) 0).bind (fun v28 => (f_X0_init v28  (nw v26 0)).bind (fun v29 => (sR v29 v27 0 (2:Int32) (some (v26).2)).bind (fun v30 => (gR v30 (some x0) 11 3).bind (fun v31 => (rc (nw v30 0) (some (v30).2) 0).bind (fun v32 => (f_X0_init v32  (nw v30 0)).bind (fun v33 => (sR v33 v31 0 (3:Int32) (some (v30).2)).bind (fun v34 => (gR v34 (some x0) 11 7).bind (fun v35 => (rc (nw v34 9) (some (v34).2) 9).bind (fun v36 => (f_X9_init v36  (nw v34 9)).bind (fun v37 => (sR v37 v35 9 (0:Int32) (some (v34).2)).bind (fun v38 => (gR v38 (some x0) 11 7).bind (fun v39 => (rc (nw v38 9) (some (v38).2) 9).bind (fun v40 => (f_X9_init v40  (nw v38 9)).bind (fun v41 => (sR v41 v39 9 (1:Int32) (some (v38).2)).bind (fun v42 => (gR v42 (some x0) 11 7).bind (fun v43 => (rc (nw v42 9) (some (v42).2) 9).bind (fun v44 => (f_X9_init v44  (nw v42 9)).bind (fun v45 => (sR v45 v43 9 (2:Int32) (some (v42).2)).bind (fun v46 => (gR v46 (some x0) 11 7).bind (fun v47 => (rc (nw v46 9) (some (v46).2) 9).bind (fun v48 => (f_X9_init v48  (nw v46 9)).bind (fun v49 => (sR v49 v47 9 (3:Int32) (some (v46).2)).bind (fun v50 => (gR v50 (some x0) 11 7).bind (fun v51 => (rc (nw v50 9) (some (v50).2) 9).bind (fun v52 => (f_X9_init v52  (nw v50 9)).bind (fun v53 => (sR v53 v51 9 (4:Int32) (some (v50).2)).bind (fun v54 => (gR v54 (some x0) 11 7).bind (fun v55 => (rc (nw v54 9) (some (v54).2) 9).bind (fun v56 => (f_X9_init v56  (nw v54 9)).bind (fun v57 => (sR v57 v55 9 (5:Int32) (some (v54).2)).bind (fun v58 => (gR v58 (some x0) 11 7).bind (fun v59 => (rc (nw v58 9) (some (v58).2) 9).bind (fun v60 => (f_X9_init v60  (nw v58 9)).bind (fun v61 => (sR v61 v59 9 (6:Int32) (some (v58).2)).bind (fun v62 => (gR v62 (some x0) 11 7).bind (fun v63 => (rc (nw v62 9) (some (v62).2) 9).bind (fun v64 => (f_X9_init v64  (nw v62 9)).bind (fun v65 => (sR v65 v63 9 (7:Int32) (some (v62).2)).bind (fun v66 => (gR v66 (some x0) 11 7).bind (fun v67 => (rc (nw v66 9) (some (v66).2) 9).bind (fun v68 => (f_X9_init v68  (nw v66 9)).bind (fun v69 => (sR v69 v67 9 (8:Int32) (some (v66).2)).bind (fun v70 => (gR v70 (some x0) 11 7).bind (fun v71 => (rc (nw v70 9) (some (v70).2) 9).bind (fun v72 => (f_X9_init v72  (nw v70 9)).bind (fun v73 => (sR v73 v71 9 (9:Int32) (some (v70).2)).bind (fun v74 => (gR v74 (some x0) 11 7).bind (fun v75 => (rc (nw v74 9) (some (v74).2) 9).bind (fun v76 => (f_X9_init v76  (nw v74 9)).bind (fun v77 => (sR v77 v75 9 (10:Int32) (some (v74).2)).bind (fun v78 => (gR v78 (some x0) 11 7).bind (fun v79 => (rc (nw v78 9) (some (v78).2) 9).bind (fun v80 => (f_X9_init v80  (nw v78 9)).bind (fun v81 => (sR v81 v79 9 (11:Int32) (some (v78).2)).bind (fun v82 => (gR v82 (some x0) 11 7).bind (fun v83 => (rc (nw v82 9) (some (v82).2) 9).bind (fun v84 => (f_X9_init v84  (nw v82 9)).bind (fun v85 => (sR v85 v83 9 (12:Int32) (some (v82).2)).bind (fun v86 => (gR v86 (some x0) 11 7).bind (fun v87 => (rc (nw v86 9) (some (v86).2) 9).bind (fun v88 => (f_X9_init v88  (nw v86 9)).bind (fun v89 => (sR v89 v87 9 (13:Int32) (some (v86).2)).bind (fun v90 => (gR v90 (some x0) 11 7).bind (fun v91 => (rc (nw v90 9) (some (v90).2) 9).bind (fun v92 => (f_X9_init v92  (nw v90 9)).bind (fun v93 => (sR v93 v91 9 (14:Int32) (some (v90).2)).bind (fun v94 => (gR v94 (some x0) 11 7).bind (fun v95 => (rc (nw v94 9) (some (v94).2) 9).bind (fun v96 => (f_X9_init v96  (nw v94 9)).bind (fun v97 => (sR v97 v95 9 (15:Int32) (some (v94).2)).bind (fun v98 => (gR v98 (some x0) 11 7).bind (fun v99 => (rc (nw v98 9) (some (v98).2) 9).bind (fun v100 => (f_X9_init v100  (nw v98 9)).bind (fun v101 => (sR v101 v99 9 (16:Int32) (some (v98).2)).bind (fun v102 => (gR v102 (some x0) 11 7).bind (fun v103 => (rc (nw v102 9) (some (v102).2) 9).bind (fun v104 => (f_X9_init v104  (nw v102 9)).bind (fun v105 => (sR v105 v103 9 (17:Int32) (some (v102).2)).bind (fun v106 => (gR v106 (some x0) 11 7).bind (fun v107 => (rc (nw v106 9) (some (v106).2) 9).bind (fun v108 => (f_X9_init v108  (nw v106 9)).bind (fun v109 => (sR v109 v107 9 (18:Int32) (some (v106).2)).bind (fun v110 => (gR v110 (some x0) 11 7).bind (fun v111 => (rc (nw v110 9) (some (v110).2) 9).bind (fun v112 => (f_X9_init v112  (nw v110 9)).bind (fun v113 => (sR v113 v111 9 (19:Int32) (some (v110).2)).bind (fun v114 => (gR v114 (some x0) 11 7).bind (fun v115 => (rc (nw v114 9) (some (v114).2) 9).bind (fun v116 => (f_X9_init v116  (nw v114 9)).bind (fun v117 => (sR v117 v115 9 (20:Int32) (some (v114).2)).bind (fun v118 => (gR v118 (some x0) 11 7).bind (fun v119 => (rc (nw v118 9) (some (v118).2) 9).bind (fun v120 => (f_X9_init v120  (nw v118 9)).bind (fun v121 => (sR v121 v119 9 (21:Int32) (some (v118).2)).bind (fun v122 => (gR v122 (some x0) 11 7).bind (fun v123 => (rc (nw v122 9) (some (v122).2) 9).bind (fun v124 => (f_X9_init v124  (nw v122 9)).bind (fun v125 => (sR v125 v123 9 (22:Int32) (some (v122).2)).bind (fun v126 => (gR v126 (some x0) 11 7).bind (fun v127 => (rc (nw v126 9) (some (v126).2) 9).bind (fun v128 => (f_X9_init v128  (nw v126 9)).bind (fun v129 => (sR v129 v127 9 (23:Int32) (some (v126).2)).bind (fun v130 => (gR v130 (some x0) 11 7).bind (fun v131 => (rc (nw v130 9) (some (v130).2) 9).bind (fun v132 => (f_X9_init v132  (nw v130 9)).bind (fun v133 => (sR v133 v131 9 (24:Int32) (some (v130).2)).bind (fun v134 => (gR v134 (some x0) 11 7).bind (fun v135 => (rc (nw v134 9) (some (v134).2) 9).bind (fun v136 => (f_X9_init v136  (nw v134 9)).bind (fun v137 => (sR v137 v135 9 (25:Int32) (some (v134).2)).bind (fun v138 => (gR v138 (some x0) 11 7).bind (fun v139 => (rc (nw v138 9) (some (v138).2) 9).bind (fun v140 => (f_X9_init v140  (nw v138 9)).bind (fun v141 => (sR v141 v139 9 (26:Int32) (some (v138).2)).bind (fun v142 => (gR v142 (some x0) 11 7).bind (fun v143 => (rc (nw v142 9) (some (v142).2) 9).bind (fun v144 => (f_X9_init v144  (nw v142 9)).bind (fun v145 => (sR v145 v143 9 (27:Int32) (some (v142).2)).bind (fun v146 => (gR v146 (some x0) 11 7).bind (fun v147 => (rc (nw v146 9) (some (v146).2) 9).bind (fun v148 => (f_X9_init v148  (nw v146 9)).bind (fun v149 => (sR v149 v147 9 (28:Int32) (some (v146).2)).bind (fun v150 => (gR v150 (some x0) 11 7).bind (fun v151 => (rc (nw v150 9) (some (v150).2) 9).bind (fun v152 => (f_X9_init v152  (nw v150 9)).bind (fun v153 => (sR v153 v151 9 (29:Int32) (some (v150).2)).bind (fun v154 => some v154))))))))))))))))))))))))))))))))))))))))))))))))))))))))))))))))))))))))))))))))))))))))))))))))))))))))))))))))))))))))))))))))))))))))))))))))))))))))))
set_option maxRecDepth 20000 in
set_option maxHeartbeats 4000000 in
theorem K_X11_init (l : Launch) (D : cD) (Φ : cG) (σ : cS) (x0 : Nat)  {q : cS} (h : f_X11_init x0  σ = some q) : Met l yX11_init (Cond.code yX11_init cX11_init 5 none :: BG) (rA 4 253 3074 85) (cPc D Φ σ [cv Φ (some x0)]) (cQw D Φ q none) 253 3074 (cReg Φ) := by
  refine Met.ofW (cc := cX11_init) (maxL := 5) (ret := none) (by decide) rfl ?_
  intro p e s m args below meth c s₁ B hml hv
  obtain ⟨rfl, hP, hK, hZ⟩ := hv
  have X : cX p s m [cv Φ (some x0)].toArray meth c cX11_init 5 none RX11 D Φ := cX_of B hml hK hZ
  have hin : meth.name = "<init>" := (name_of_methodNamed B.named B.method).1
  have hx := X.1
  have hb := X.2.1
  have hown := X.2.2.2.1
  have hts := X.2.2.2.2.1
  have hl := lv_entry [cv Φ (some x0)] (n := 5) (by simp only [lgs_r, lgs_i, lgs_l, lgs_0, List.length]; exact Nat.le_of_ble_eq_true rfl)
  rw [lg_entry_eq]
  generalize (lg_sl [cv Φ (some x0)] ++ List.replicate (5 - (lg_sl [cv Φ (some x0)]).length) Slot.unset).toArray = ls at hl ⊢
  simp only [lv_args_r, lv_args_i, lv_args_l, lv_args_0] at hl
  have hl : lv_has ls 5 [(0, cv Φ (some x0))] := hl
  have hS : va_S (cReg Φ) s.heap s.heap [] := va_S.rf
  show cWw p l e 4 253 3074 85 s m [cv Φ (some x0)].toArray below meth c D Φ q none s.heap [] 0 0 (F0 m 0 ls [])
  have h : ((pR (na σ 30 4) (some x0) 11 3 (some (σ).2)).bind (fun v1 => (pR (na v1 34 6) (some x0) 11 4 (some (v1).2)).bind (fun v2 => (pR (na v2 39 30) (some x0) 11 7 (some (v2).2)).bind (fun v3 => (rc (nw v3 9) (some (v3).2) 9).bind (fun v4 => (f_X9_init v4  (nw v3 9)).bind (fun v5 => (pR v5 (some x0) 11 8 (some (v3).2)).bind (fun v6 => (rc (nw v6 9) (some (v6).2) 9).bind (fun v7 => (f_X9_init v7  (nw v6 9)).bind (fun v8 => (pR v8 (some x0) 11 9 (some (v6).2)).bind (fun v9 => (rc (nw v9 10) (some (v9).2) 10).bind (fun v10 => (f_X10_init v10  (nw v9 10)).bind (fun v11 => (rc (nw v11 5) (some (v11).2) 5).bind (fun v12 => (f_X5_init v12 ((some (v9).2)) (nw v11 5)).bind (fun v13 => (rc (nw v13 1) (some (v13).2) 1).bind (fun v14 => (f_X1_init v14 ((some (v9).2)) ((some (v11).2)) (nw v13 1)).bind (fun v15 => (pR v15 (some x0) 11 0 (some (v9).2)).bind (fun v16 => (pR v16 (some x0) 11 1 (some (v11).2)).bind (fun v17 => (pR v17 (some x0) 11 2 (some (v13).2)).bind (fun v18 => (gR v18 (some x0) 11 3).bind (fun v19 => (rc (nw v18 0) (some (v18).2) 0).bind (fun v20 => (f_X0_init v20  (nw v18 0)).bind (fun v21 => (sR v21 v19 0 (0:Int32) (some (v18).2)).bind (fun v22 => (gR v22 (some x0) 11 3).bind (fun v23 => (rc (nw v22 0) (some (v22).2) 0).bind (fun v24 => (f_X0_init v24  (nw v22 0)).bind (fun v25 => (sR v25 v23 0 (1:Int32) (some (v22).2)).bind (fun v26 => (gR v26 (some x0) 11 3).bind (fun v27 => (rc (nw v26 0) (some (v26).2) 0).bind (fun v28 => (f_X0_init v28  (nw v26 0)).bind (fun v29 => (sR v29 v27 0 (2:Int32) (some (v26).2)).bind (fun v30 => (gR v30 (some x0) 11 3).bind (fun v31 => (rc (nw v30 0) (some (v30).2) 0).bind (fun v32 => (f_X0_init v32  (nw v30 0)).bind (fun v33 => (sR v33 v31 0 (3:Int32) (some (v30).2)).bind (fun v34 => (gR v34 (some x0) 11 7).bind (fun v35 => (rc (nw v34 9) (some (v34).2) 9).bind (fun v36 => (f_X9_init v36  (nw v34 9)).bind (fun v37 => (sR v37 v35 9 (0:Int32) (some (v34).2)).bind (fun v38 => (gR v38 (some x0) 11 7).bind (fun v39 => (rc (nw v38 9) (some (v38).2) 9).bind (fun v40 => (f_X9_init v40  (nw v38 9)).bind (fun v41 => (sR v41 v39 9 (1:Int32) (some (v38).2)).bind (fun v42 => (gR v42 (some x0) 11 7).bind (fun v43 => (rc (nw v42 9) (some (v42).2) 9).bind (fun v44 => (f_X9_init v44  (nw v42 9)).bind (fun v45 => (sR v45 v43 9 (2:Int32) (some (v42).2)).bind (fun v46 => (gR v46 (some x0) 11 7).bind (fun v47 => (rc (nw v46 9) (some (v46).2) 9).bind (fun v48 => (f_X9_init v48  (nw v46 9)).bind (fun v49 => (sR v49 v47 9 (3:Int32) (some (v46).2)).bind (fun v50 => (gR v50 (some x0) 11 7).bind (fun v51 => (rc (nw v50 9) (some (v50).2) 9).bind (fun v52 => (f_X9_init v52  (nw v50 9)).bind (fun v53 => (sR v53 v51 9 (4:Int32) (some (v50).2)).bind (fun v54 => (gR v54 (some x0) 11 7).bind (fun v55 => (rc (nw v54 9) (some (v54).2) 9).bind (fun v56 => (f_X9_init v56  (nw v54 9)).bind (fun v57 => (sR v57 v55 9 (5:Int32) (some (v54).2)).bind (fun v58 => (gR v58 (some x0) 11 7).bind (fun v59 => (rc (nw v58 9) (some (v58).2) 9).bind (fun v60 => (f_X9_init v60  (nw v58 9)).bind (fun v61 => (sR v61 v59 9 (6:Int32) (some (v58).2)).bind (fun v62 => (gR v62 (some x0) 11 7).bind (fun v63 => (rc (nw v62 9) (some (v62).2) 9).bind (fun v64 => (f_X9_init v64  (nw v62 9)).bind (fun v65 => (sR v65 v63 9 (7:Int32) (some (v62).2)).bind (fun v66 => (gR v66 (some x0) 11 7).bind (fun v67 => (rc (nw v66 9) (some (v66).2) 9).bind (fun v68 => (f_X9_init v68  (nw v66 9)).bind (fun v69 => (sR v69 v67 9 (8:Int32) (some (v66).2)).bind (fun v70 => (gR v70 (some x0) 11 7).bind (fun v71 => (rc (nw v70 9) (some (v70).2) 9).bind (fun v72 => (f_X9_init v72  (nw v70 9)).bind (fun v73 => (sR v73 v71 9 (9:Int32) (some (v70).2)).bind (fun v74 => (gR v74 (some x0) 11 7).bind (fun v75 => (rc (nw v74 9) (some (v74).2) 9).bind (fun v76 => (f_X9_init v76  (nw v74 9)).bind (fun v77 => (sR v77 v75 9 (10:Int32) (some (v74).2)).bind (fun v78 => (gR v78 (some x0) 11 7).bind (fun v79 => (rc (nw v78 9) (some (v78).2) 9).bind (fun v80 => (f_X9_init v80  (nw v78 9)).bind (fun v81 => (sR v81 v79 9 (11:Int32) (some (v78).2)).bind (fun v82 => (gR v82 (some x0) 11 7).bind (fun v83 => (rc (nw v82 9) (some (v82).2) 9).bind (fun v84 => (f_X9_init v84  (nw v82 9)).bind (fun v85 => (sR v85 v83 9 (12:Int32) (some (v82).2)).bind (fun v86 => (gR v86 (some x0) 11 7).bind (fun v87 => (rc (nw v86 9) (some (v86).2) 9).bind (fun v88 => (f_X9_init v88  (nw v86 9)).bind (fun v89 => (sR v89 v87 9 (13:Int32) (some (v86).2)).bind (fun v90 => (gR v90 (some x0) 11 7).bind (fun v91 => (rc (nw v90 9) (some (v90).2) 9).bind (fun v92 => (f_X9_init v92  (nw v90 9)).bind (fun v93 => (sR v93 v91 9 (14:Int32) (some (v90).2)).bind (fun v94 => (gR v94 (some x0) 11 7).bind (fun v95 => (rc (nw v94 9) (some (v94).2) 9).bind (fun v96 => (f_X9_init v96  (nw v94 9)).bind (fun v97 => (sR v97 v95 9 (15:Int32) (some (v94).2)).bind (fun v98 => (gR v98 (some x0) 11 7).bind (fun v99 => (rc (nw v98 9) (some (v98).2) 9).bind (fun v100 => (f_X9_init v100  (nw v98 9)).bind (fun v101 => (sR v101 v99 9 (16:Int32) (some (v98).2)).bind (fun v102 => (gR v102 (some x0) 11 7).bind (fun v103 => (rc (nw v102 9) (some (v102).2) 9).bind (fun v104 => (f_X9_init v104  (nw v102 9)).bind (fun v105 => (sR v105 v103 9 (17:Int32) (some (v102).2)).bind (fun v106 => (gR v106 (some x0) 11 7).bind (fun v107 => (rc (nw v106 9) (some (v106).2) 9).bind (fun v108 => (f_X9_init v108  (nw v106 9)).bind (fun v109 => (sR v109 v107 9 (18:Int32) (some (v106).2)).bind (fun v110 => (gR v110 (some x0) 11 7).bind (fun v111 => (rc (nw v110 9) (some (v110).2) 9).bind (fun v112 => (f_X9_init v112  (nw v110 9)).bind (fun v113 => (sR v113 v111 9 (19:Int32) (some (v110).2)).bind (fun v114 => (gR v114 (some x0) 11 7).bind (fun v115 => (rc (nw v114 9) (some (v114).2) 9).bind (fun v116 => (f_X9_init v116  (nw v114 9)).bind (fun v117 => (sR v117 v115 9 (20:Int32) (some (v114).2)).bind (fun v118 => (gR v118 (some x0) 11 7).bind (fun v119 => (rc (nw v118 9) (some (v118).2) 9).bind (fun v120 => (f_X9_init v120  (nw v118 9)).bind (fun v121 => (sR v121 v119 9 (21:Int32) (some (v118).2)).bind (fun v122 => (gR v122 (some x0) 11 7).bind (fun v123 => (rc (nw v122 9) (some (v122).2) 9).bind (fun v124 => (f_X9_init v124  (nw v122 9)).bind (fun v125 => (sR v125 v123 9 (22:Int32) (some (v122).2)).bind (fun v126 => (gR v126 (some x0) 11 7).bind (fun v127 => (rc (nw v126 9) (some (v126).2) 9).bind (fun v128 => (f_X9_init v128  (nw v126 9)).bind (fun v129 => (sR v129 v127 9 (23:Int32) (some (v126).2)).bind (fun v130 => (gR v130 (some x0) 11 7).bind (fun v131 => (rc (nw v130 9) (some (v130).2) 9).bind (fun v132 => (f_X9_init v132  (nw v130 9)).bind (fun v133 => (sR v133 v131 9 (24:Int32) (some (v130).2)).bind (fun v134 => (gR v134 (some x0) 11 7).bind (fun v135 => (rc (nw v134 9) (some (v134).2) 9).bind (fun v136 => (f_X9_init v136  (nw v134 9)).bind (fun v137 => (sR v137 v135 9 (25:Int32) (some (v134).2)).bind (fun v138 => (gR v138 (some x0) 11 7).bind (fun v139 => (rc (nw v138 9) (some (v138).2) 9).bind (fun v140 => (f_X9_init v140  (nw v138 9)).bind (fun v141 => (sR v141 v139 9 (26:Int32) (some (v138).2)).bind (fun v142 => (gR v142 (some x0) 11 7).bind (fun v143 => (rc (nw v142 9) (some (v142).2) 9).bind (fun v144 => (f_X9_init v144  (nw v142 9)).bind (fun v145 => (sR v145 v143 9 (27:Int32) (some (v142).2)).bind (fun v146 => (gR v146 (some x0) 11 7).bind (fun v147 => (rc (nw v146 9) (some (v146).2) 9).bind (fun v148 => (f_X9_init v148  (nw v146 9)).bind (fun v149 => (sR v149 v147 9 (28:Int32) (some (v146).2)).bind (fun v150 => (gR v150 (some x0) 11 7).bind (fun v151 => (rc (nw v150 9) (some (v150).2) 9).bind (fun v152 => (f_X9_init v152  (nw v150 9)).bind (fun v153 => (sR v153 v151 9 (29:Int32) (some (v150).2)).bind (fun v154 => some v154))))))))))))))))))))))))))))))))))))))))))))))))))))))))))))))))))))))))))))))))))))))))))))))))))))))))))))))))))))))))))))))))))))))))))))))))))))))))))) = some q := h
  refine c_aload_n hx hb dX11_init_0 rfl (lv_at hl 0 rfl) ?_
  refine W.objInit hx hb hown (hts _ w_79) (hts _ w_oi) (hts _ w_oc) rfl (hl.1.trans X.2.2.1.symm) rfl dX11_init_1 (Nat.le_of_ble_eq_true rfl) (Nat.le_of_ble_eq_true rfl) ?_
  refine W.eq (g2 := F0 m 4 ls []) rfl ?_
  refine c_aload_n hx hb dX11_init_4 rfl (lv_at hl 0 rfl) ?_
  refine lv_iconst (v := (4:Int32)) hx hb dX11_init_5 (by decide) ?_
  refine c_newq X hP hS (ci := 0) (N := 4) (Nat.le_of_ble_eq_true rfl) rfl w_82 (by decide) rfl (Nat.le_of_ble_eq_true rfl) (Nat.le_of_ble_eq_true rfl) (Nat.le_of_ble_eq_true rfl) dX11_init_6 (fun H hP hS => ?_)
  obtain ⟨v1, hv1, h⟩ := ob h
  refine c_pR X hP hS hv1 (Nat.le_of_ble_eq_true rfl) (Nat.le_of_ble_eq_true rfl) rfl (Or.inr ⟨rfl, hin, rfl⟩) w_574 dX11_init_9 (fun H locs hP hS => ?_)
  refine c_aload_n hx hb dX11_init_12 rfl (lv_at hl 0 rfl) ?_
  refine lv_bipush (v := (6:Int32)) hx hb dX11_init_13 (by decide) ?_
  refine c_newq X hP hS (ci := 4) (N := 6) (Nat.le_of_ble_eq_true rfl) rfl w_84 (by decide) rfl (Nat.le_of_ble_eq_true rfl) (Nat.le_of_ble_eq_true rfl) (Nat.le_of_ble_eq_true rfl) dX11_init_15 (fun H hP hS => ?_)
  obtain ⟨v2, hv2, h⟩ := ob h
  refine c_pR X hP hS hv2 (Nat.le_of_ble_eq_true rfl) (Nat.le_of_ble_eq_true rfl) rfl (Or.inr ⟨rfl, hin, rfl⟩) w_575 dX11_init_18 (fun H locs hP hS => ?_)
  refine c_aload_n hx hb dX11_init_21 rfl (lv_at hl 0 rfl) ?_
  refine lv_bipush (v := (30:Int32)) hx hb dX11_init_22 (by decide) ?_
  refine c_newq X hP hS (ci := 9) (N := 30) (Nat.le_of_ble_eq_true rfl) rfl w_86 (by decide) rfl (Nat.le_of_ble_eq_true rfl) (Nat.le_of_ble_eq_true rfl) (Nat.le_of_ble_eq_true rfl) dX11_init_24 (fun H hP hS => ?_)
  obtain ⟨v3, hv3, h⟩ := ob h
  refine c_pR X hP hS hv3 (Nat.le_of_ble_eq_true rfl) (Nat.le_of_ble_eq_true rfl) rfl (Or.inr ⟨rfl, hin, rfl⟩) w_578 dX11_init_27 (fun H locs hP hS => ?_)
  refine c_aload_n hx hb dX11_init_30 rfl (lv_at hl 0 rfl) ?_
  refine c_new X hP hS (ci := 9) ⟨Nat.le_of_ble_eq_true rfl, by decide⟩ ⟨w_86, w_88, w_57⟩ (Nat.le_of_ble_eq_true rfl) (Nat.le_of_ble_eq_true rfl) dX11_init_31 (fun H hP hS => ?_)
  refine c_dupq hx hb dX11_init_34 ?_
  obtain ⟨v4, hv4, h⟩ := ob h
  obtain ⟨v5, hv5, h⟩ := ob h
  refine c_cw (c_runIN X (K_X9_init l D Φ (nw v3 9) v4  hv5) hv4 (Nat.le_of_ble_eq_true rfl) ⟨cn_0, ww_X9_init⟩ rfl rfl hy_X9_init rfl ⟨(Nat.le_of_ble_eq_true rfl), (Nat.le_of_ble_eq_true rfl)⟩ hP hS hl.1 (Nat.le_of_ble_eq_true rfl) dX11_init_35 rfl ⟨(Nat.le_of_ble_eq_true rfl), (Nat.le_of_ble_eq_true rfl)⟩) hS (fun H locs hP hS => ?_)
  refine W.eq (g2 := F0 m 38 ls [cv Φ (some (v3).2), cv Φ (some x0)]) rfl ?_
  obtain ⟨v6, hv6, h⟩ := ob h
  refine c_pR X hP hS hv6 (Nat.le_of_ble_eq_true rfl) (Nat.le_of_ble_eq_true rfl) rfl (Or.inr ⟨rfl, hin, rfl⟩) w_579 dX11_init_38 (fun H locs hP hS => ?_)
  refine c_aload_n hx hb dX11_init_41 rfl (lv_at hl 0 rfl) ?_
  refine c_new X hP hS (ci := 9) ⟨Nat.le_of_ble_eq_true rfl, by decide⟩ ⟨w_86, w_88, w_57⟩ (Nat.le_of_ble_eq_true rfl) (Nat.le_of_ble_eq_true rfl) dX11_init_42 (fun H hP hS => ?_)
  refine c_dupq hx hb dX11_init_45 ?_
  obtain ⟨v7, hv7, h⟩ := ob h
  obtain ⟨v8, hv8, h⟩ := ob h
  refine c_cw (c_runIN X (K_X9_init l D Φ (nw v6 9) v7  hv8) hv7 (Nat.le_of_ble_eq_true rfl) ⟨cn_0, ww_X9_init⟩ rfl rfl hy_X9_init rfl ⟨(Nat.le_of_ble_eq_true rfl), (Nat.le_of_ble_eq_true rfl)⟩ hP hS hl.1 (Nat.le_of_ble_eq_true rfl) dX11_init_46 rfl ⟨(Nat.le_of_ble_eq_true rfl), (Nat.le_of_ble_eq_true rfl)⟩) hS (fun H locs hP hS => ?_)
  refine W.eq (g2 := F0 m 49 ls [cv Φ (some (v6).2), cv Φ (some x0)]) rfl ?_
  obtain ⟨v9, hv9, h⟩ := ob h
  refine c_pR X hP hS hv9 (Nat.le_of_ble_eq_true rfl) (Nat.le_of_ble_eq_true rfl) rfl (Or.inr ⟨rfl, hin, rfl⟩) w_580 dX11_init_49 (fun H locs hP hS => ?_)
  refine c_new X hP hS (ci := 10) ⟨Nat.le_of_ble_eq_true rfl, by decide⟩ ⟨w_142, w_143, w_58⟩ (Nat.le_of_ble_eq_true rfl) (Nat.le_of_ble_eq_true rfl) dX11_init_52 (fun H hP hS => ?_)
  refine c_dupq hx hb dX11_init_55 ?_
  obtain ⟨v10, hv10, h⟩ := ob h
  obtain ⟨v11, hv11, h⟩ := ob h
  refine c_cw (c_runI X (K_X10_init l D Φ (nw v9 10) v10  hv11) hv10 (Nat.le_of_ble_eq_true rfl) ⟨w_144, ww_X10_init⟩ rfl rfl hy_X10_init rfl ⟨(Nat.le_of_ble_eq_true rfl), (Nat.le_of_ble_eq_true rfl)⟩ hP hS hl.1 (Nat.le_of_ble_eq_true rfl) dX11_init_56 rfl ⟨(Nat.le_of_ble_eq_true rfl), (Nat.le_of_ble_eq_true rfl)⟩) hS (fun H locs hP hS => ?_)
  refine W.eq (g2 := F0 m 59 ls [cv Φ (some (v9).2)]) rfl ?_
  refine c_astore_n hx hb dX11_init_59 rfl hl (Nat.le_of_ble_eq_true rfl) (lvKr lvK0) rfl (fun ls (hl : lv_has ls 5 [(1, cv Φ (some (v9).2)), (0, cv Φ (some x0))]) => ?_)
  refine c_new X hP hS (ci := 5) ⟨Nat.le_of_ble_eq_true rfl, by decide⟩ ⟨w_348, w_349, w_61⟩ (Nat.le_of_ble_eq_true rfl) (Nat.le_of_ble_eq_true rfl) dX11_init_60 (fun H hP hS => ?_)
  refine c_dupq hx hb dX11_init_63 ?_
  refine c_aload_n hx hb dX11_init_64 rfl (lv_at hl 0 rfl) ?_
  obtain ⟨v12, hv12, h⟩ := ob h
  obtain ⟨v13, hv13, h⟩ := ob h
  refine c_cw (c_runI X (K_X5_init l D Φ (nw v11 5) v12 ((some (v9).2)) hv13) hv12 (Nat.le_of_ble_eq_true rfl) ⟨w_350, ww_X5_init⟩ rfl rfl hy_X5_init rfl ⟨(Nat.le_of_ble_eq_true rfl), (Nat.le_of_ble_eq_true rfl)⟩ hP hS hl.1 (Nat.le_of_ble_eq_true rfl) dX11_init_65 rfl ⟨(Nat.le_of_ble_eq_true rfl), (Nat.le_of_ble_eq_true rfl)⟩) hS (fun H locs hP hS => ?_)
  refine W.eq (g2 := F0 m 68 ls [cv Φ (some (v11).2)]) rfl ?_
  refine c_astore_n hx hb dX11_init_68 rfl hl (Nat.le_of_ble_eq_true rfl) (lvKr (lvKa rfl lvK0)) rfl (fun ls (hl : lv_has ls 5 [(2, cv Φ (some (v11).2)), (1, cv Φ (some (v9).2)), (0, cv Φ (some x0))]) => ?_)
  refine c_new X hP hS (ci := 1) ⟨Nat.le_of_ble_eq_true rfl, by decide⟩ ⟨w_488, w_489, w_64⟩ (Nat.le_of_ble_eq_true rfl) (Nat.le_of_ble_eq_true rfl) dX11_init_69 (fun H hP hS => ?_)
  refine c_dupq hx hb dX11_init_72 ?_
  refine c_aload_n hx hb dX11_init_73 rfl (lv_at hl 1 rfl) ?_
  refine c_aload_n hx hb dX11_init_74 rfl (lv_at hl 0 rfl) ?_
  obtain ⟨v14, hv14, h⟩ := ob h
  obtain ⟨v15, hv15, h⟩ := ob h
  refine c_cw (c_runI X (K_X1_init l D Φ (nw v13 1) v14 ((some (v9).2)) ((some (v11).2)) hv15) hv14 (Nat.le_of_ble_eq_true rfl) ⟨w_490, ww_X1_init⟩ rfl rfl hy_X1_init rfl ⟨(Nat.le_of_ble_eq_true rfl), (Nat.le_of_ble_eq_true rfl)⟩ hP hS hl.1 (Nat.le_of_ble_eq_true rfl) dX11_init_75 rfl ⟨(Nat.le_of_ble_eq_true rfl), (Nat.le_of_ble_eq_true rfl)⟩) hS (fun H locs hP hS => ?_)
  refine W.eq (g2 := F0 m 78 ls [cv Φ (some (v13).2)]) rfl ?_
  refine c_astore_n hx hb dX11_init_78 rfl hl (Nat.le_of_ble_eq_true rfl) (lvKr (lvKa rfl (lvKa rfl lvK0))) rfl (fun ls (hl : lv_has ls 5 [(3, cv Φ (some (v13).2)), (2, cv Φ (some (v11).2)), (1, cv Φ (some (v9).2)), (0, cv Φ (some x0))]) => ?_)
  refine c_aload_n hx hb dX11_init_79 rfl (lv_at hl 3 rfl) ?_
  refine c_aload_n hx hb dX11_init_80 rfl (lv_at hl 2 rfl) ?_
  obtain ⟨v16, hv16, h⟩ := ob h
  refine c_pR X hP hS hv16 (Nat.le_of_ble_eq_true rfl) (Nat.le_of_ble_eq_true rfl) rfl (Or.inr ⟨rfl, hin, rfl⟩) w_571 dX11_init_81 (fun H locs hP hS => ?_)
  refine c_aload_n hx hb dX11_init_84 rfl (lv_at hl 3 rfl) ?_
  refine c_aload_n hx hb dX11_init_85 rfl (lv_at hl 1 rfl) ?_
  obtain ⟨v17, hv17, h⟩ := ob h
  refine c_pR X hP hS hv17 (Nat.le_of_ble_eq_true rfl) (Nat.le_of_ble_eq_true rfl) rfl (Or.inr ⟨rfl, hin, rfl⟩) w_572 dX11_init_86 (fun H locs hP hS => ?_)
  refine c_aload_n hx hb dX11_init_89 rfl (lv_at hl 3 rfl) ?_
  refine c_aload_n hx hb dX11_init_90 rfl (lv_at hl 0 rfl) ?_
  obtain ⟨v18, hv18, h⟩ := ob h
  refine c_pR X hP hS hv18 (Nat.le_of_ble_eq_true rfl) (Nat.le_of_ble_eq_true rfl) rfl (Or.inr ⟨rfl, hin, rfl⟩) w_573 dX11_init_91 (fun H locs hP hS => ?_)
  refine lv_iconst (v := (0:Int32)) hx hb dX11_init_94 (by decide) ?_
  refine c_istore hx hb dX11_init_95 hl (Nat.le_of_ble_eq_true rfl) (lvKr (lvKa rfl (lvKa rfl (lvKa rfl lvK0)))) rfl (fun ls (hl : lv_has ls 5 [(4, .int (0:Int32)), (3, cv Φ (some (v13).2)), (2, cv Φ (some (v11).2)), (1, cv Φ (some (v9).2)), (0, cv Φ (some x0))]) => ?_)
  refine lv_iload hx hb dX11_init_97 (lv_at hl 0 rfl) ?_
  refine lv_iconst (v := (4:Int32)) hx hb dX11_init_99 (by decide) ?_
  refine lv_icmp_ge (tgt := 123) hx hb dX11_init_100 rfl (fun hc => absurd hc (by decide)) (fun hc => ?_)
  refine c_aload_n hx hb dX11_init_103 rfl (lv_at hl 4 rfl) ?_
  obtain ⟨v19, hv19, h⟩ := ob h
  refine c_gR X hP hv19 (Nat.le_of_ble_eq_true rfl) (Nat.le_of_ble_eq_true rfl) rfl w_574 dX11_init_104 ?_
  refine lv_iload hx hb dX11_init_107 (lv_at hl 0 rfl) ?_
  refine c_new X hP hS (ci := 0) ⟨Nat.le_of_ble_eq_true rfl, by decide⟩ ⟨w_82, w_549, w_65⟩ (Nat.le_of_ble_eq_true rfl) (Nat.le_of_ble_eq_true rfl) dX11_init_109 (fun H hP hS => ?_)
  refine c_dupq hx hb dX11_init_112 ?_
  obtain ⟨v20, hv20, h⟩ := ob h
  obtain ⟨v21, hv21, h⟩ := ob h
  refine c_cw (c_runIN X (K_X0_init l D Φ (nw v18 0) v20  hv21) hv20 (Nat.le_of_ble_eq_true rfl) ⟨cn_3, ww_X0_init⟩ rfl rfl hy_X0_init rfl ⟨(Nat.le_of_ble_eq_true rfl), (Nat.le_of_ble_eq_true rfl)⟩ hP hS hl.1 (Nat.le_of_ble_eq_true rfl) dX11_init_113 rfl ⟨(Nat.le_of_ble_eq_true rfl), (Nat.le_of_ble_eq_true rfl)⟩) hS (fun H locs hP hS => ?_)
  refine W.eq (g2 := F0 m 116 ls [cv Φ (some (v18).2), .int (0:Int32), cv Φ v19]) rfl ?_
  obtain ⟨v22, hv22, h⟩ := ob h
  refine c_astq X hP hS hv22 ⟨Nat.le_of_ble_eq_true rfl, by decide⟩ rfl dX11_init_116 (fun H locs hP hS => ?_)
  refine c_iinc (v := (1:Int32)) hx hb dX11_init_117 hl (k := 0) rfl (by decide) (Nat.le_of_ble_eq_true rfl) (lvKa rfl (lvKr (lvKa rfl (lvKa rfl (lvKa rfl lvK0))))) rfl (fun ls (hl : lv_has ls 5 [(4, .int (1:Int32)), (3, cv Φ (some (v13).2)), (2, cv Φ (some (v11).2)), (1, cv Φ (some (v9).2)), (0, cv Φ (some x0))]) => ?_)
  refine lv_goto (tgt := 97) hx hb dX11_init_120 rfl ?_
  refine lv_iload hx hb dX11_init_97 (lv_at hl 0 rfl) ?_
  refine lv_iconst (v := (4:Int32)) hx hb dX11_init_99 (by decide) ?_
  refine lv_icmp_ge (tgt := 123) hx hb dX11_init_100 rfl (fun hc => absurd hc (by decide)) (fun hc => ?_)
  refine c_aload_n hx hb dX11_init_103 rfl (lv_at hl 4 rfl) ?_
  obtain ⟨v23, hv23, h⟩ := ob h
  refine c_gR X hP hv23 (Nat.le_of_ble_eq_true rfl) (Nat.le_of_ble_eq_true rfl) rfl w_574 dX11_init_104 ?_
  refine lv_iload hx hb dX11_init_107 (lv_at hl 0 rfl) ?_
  refine c_new X hP hS (ci := 0) ⟨Nat.le_of_ble_eq_true rfl, by decide⟩ ⟨w_82, w_549, w_65⟩ (Nat.le_of_ble_eq_true rfl) (Nat.le_of_ble_eq_true rfl) dX11_init_109 (fun H hP hS => ?_)
  refine c_dupq hx hb dX11_init_112 ?_
  obtain ⟨v24, hv24, h⟩ := ob h
  obtain ⟨v25, hv25, h⟩ := ob h
  refine c_cw (c_runIN X (K_X0_init l D Φ (nw v22 0) v24  hv25) hv24 (Nat.le_of_ble_eq_true rfl) ⟨cn_3, ww_X0_init⟩ rfl rfl hy_X0_init rfl ⟨(Nat.le_of_ble_eq_true rfl), (Nat.le_of_ble_eq_true rfl)⟩ hP hS hl.1 (Nat.le_of_ble_eq_true rfl) dX11_init_113 rfl ⟨(Nat.le_of_ble_eq_true rfl), (Nat.le_of_ble_eq_true rfl)⟩) hS (fun H locs hP hS => ?_)
  refine W.eq (g2 := F0 m 116 ls [cv Φ (some (v22).2), .int (1:Int32), cv Φ v23]) rfl ?_
  obtain ⟨v26, hv26, h⟩ := ob h
  refine c_astq X hP hS hv26 ⟨Nat.le_of_ble_eq_true rfl, by decide⟩ rfl dX11_init_116 (fun H locs hP hS => ?_)
  refine c_iinc (v := (2:Int32)) hx hb dX11_init_117 hl (k := 0) rfl (by decide) (Nat.le_of_ble_eq_true rfl) (lvKa rfl (lvKr (lvKa rfl (lvKa rfl (lvKa rfl lvK0))))) rfl (fun ls (hl : lv_has ls 5 [(4, .int (2:Int32)), (3, cv Φ (some (v13).2)), (2, cv Φ (some (v11).2)), (1, cv Φ (some (v9).2)), (0, cv Φ (some x0))]) => ?_)
  refine lv_goto (tgt := 97) hx hb dX11_init_120 rfl ?_
  refine lv_iload hx hb dX11_init_97 (lv_at hl 0 rfl) ?_
  refine lv_iconst (v := (4:Int32)) hx hb dX11_init_99 (by decide) ?_
  refine lv_icmp_ge (tgt := 123) hx hb dX11_init_100 rfl (fun hc => absurd hc (by decide)) (fun hc => ?_)
  refine c_aload_n hx hb dX11_init_103 rfl (lv_at hl 4 rfl) ?_
  obtain ⟨v27, hv27, h⟩ := ob h
  refine c_gR X hP hv27 (Nat.le_of_ble_eq_true rfl) (Nat.le_of_ble_eq_true rfl) rfl w_574 dX11_init_104 ?_
  refine lv_iload hx hb dX11_init_107 (lv_at hl 0 rfl) ?_
  refine c_new X hP hS (ci := 0) ⟨Nat.le_of_ble_eq_true rfl, by decide⟩ ⟨w_82, w_549, w_65⟩ (Nat.le_of_ble_eq_true rfl) (Nat.le_of_ble_eq_true rfl) dX11_init_109 (fun H hP hS => ?_)
  refine c_dupq hx hb dX11_init_112 ?_
  obtain ⟨v28, hv28, h⟩ := ob h
  obtain ⟨v29, hv29, h⟩ := ob h
  refine c_cw (c_runIN X (K_X0_init l D Φ (nw v26 0) v28  hv29) hv28 (Nat.le_of_ble_eq_true rfl) ⟨cn_3, ww_X0_init⟩ rfl rfl hy_X0_init rfl ⟨(Nat.le_of_ble_eq_true rfl), (Nat.le_of_ble_eq_true rfl)⟩ hP hS hl.1 (Nat.le_of_ble_eq_true rfl) dX11_init_113 rfl ⟨(Nat.le_of_ble_eq_true rfl), (Nat.le_of_ble_eq_true rfl)⟩) hS (fun H locs hP hS => ?_)
  refine W.eq (g2 := F0 m 116 ls [cv Φ (some (v26).2), .int (2:Int32), cv Φ v27]) rfl ?_
  obtain ⟨v30, hv30, h⟩ := ob h
  refine c_astq X hP hS hv30 ⟨Nat.le_of_ble_eq_true rfl, by decide⟩ rfl dX11_init_116 (fun H locs hP hS => ?_)
  refine c_iinc (v := (3:Int32)) hx hb dX11_init_117 hl (k := 0) rfl (by decide) (Nat.le_of_ble_eq_true rfl) (lvKa rfl (lvKr (lvKa rfl (lvKa rfl (lvKa rfl lvK0))))) rfl (fun ls (hl : lv_has ls 5 [(4, .int (3:Int32)), (3, cv Φ (some (v13).2)), (2, cv Φ (some (v11).2)), (1, cv Φ (some (v9).2)), (0, cv Φ (some x0))]) => ?_)
  refine lv_goto (tgt := 97) hx hb dX11_init_120 rfl ?_
  refine lv_iload hx hb dX11_init_97 (lv_at hl 0 rfl) ?_
  refine lv_iconst (v := (4:Int32)) hx hb dX11_init_99 (by decide) ?_
  refine lv_icmp_ge (tgt := 123) hx hb dX11_init_100 rfl (fun hc => absurd hc (by decide)) (fun hc => ?_)
  refine c_aload_n hx hb dX11_init_103 rfl (lv_at hl 4 rfl) ?_
  obtain ⟨v31, hv31, h⟩ := ob h
  refine c_gR X hP hv31 (Nat.le_of_ble_eq_true rfl) (Nat.le_of_ble_eq_true rfl) rfl w_574 dX11_init_104 ?_
  refine lv_iload hx hb dX11_init_107 (lv_at hl 0 rfl) ?_
  refine c_new X hP hS (ci := 0) ⟨Nat.le_of_ble_eq_true rfl, by decide⟩ ⟨w_82, w_549, w_65⟩ (Nat.le_of_ble_eq_true rfl) (Nat.le_of_ble_eq_true rfl) dX11_init_109 (fun H hP hS => ?_)
  refine c_dupq hx hb dX11_init_112 ?_
  obtain ⟨v32, hv32, h⟩ := ob h
  obtain ⟨v33, hv33, h⟩ := ob h
  refine c_cw (c_runIN X (K_X0_init l D Φ (nw v30 0) v32  hv33) hv32 (Nat.le_of_ble_eq_true rfl) ⟨cn_3, ww_X0_init⟩ rfl rfl hy_X0_init rfl ⟨(Nat.le_of_ble_eq_true rfl), (Nat.le_of_ble_eq_true rfl)⟩ hP hS hl.1 (Nat.le_of_ble_eq_true rfl) dX11_init_113 rfl ⟨(Nat.le_of_ble_eq_true rfl), (Nat.le_of_ble_eq_true rfl)⟩) hS (fun H locs hP hS => ?_)
  refine W.eq (g2 := F0 m 116 ls [cv Φ (some (v30).2), .int (3:Int32), cv Φ v31]) rfl ?_
  obtain ⟨v34, hv34, h⟩ := ob h
  refine c_astq X hP hS hv34 ⟨Nat.le_of_ble_eq_true rfl, by decide⟩ rfl dX11_init_116 (fun H locs hP hS => ?_)
  refine c_iinc (v := (4:Int32)) hx hb dX11_init_117 hl (k := 0) rfl (by decide) (Nat.le_of_ble_eq_true rfl) (lvKa rfl (lvKr (lvKa rfl (lvKa rfl (lvKa rfl lvK0))))) rfl (fun ls (hl : lv_has ls 5 [(4, .int (4:Int32)), (3, cv Φ (some (v13).2)), (2, cv Φ (some (v11).2)), (1, cv Φ (some (v9).2)), (0, cv Φ (some x0))]) => ?_)
  refine lv_goto (tgt := 97) hx hb dX11_init_120 rfl ?_
  refine lv_iload hx hb dX11_init_97 (lv_at hl 0 rfl) ?_
  refine lv_iconst (v := (4:Int32)) hx hb dX11_init_99 (by decide) ?_
  refine lv_icmp_ge (tgt := 123) hx hb dX11_init_100 rfl (fun hc => ?_) (fun hc => absurd (by decide) hc)
  refine lv_iconst (v := (0:Int32)) hx hb dX11_init_123 (by decide) ?_
  refine c_istore hx hb dX11_init_124 hl (Nat.le_of_ble_eq_true rfl) (lvKa rfl (lvKr (lvKa rfl (lvKa rfl (lvKa rfl lvK0))))) rfl (fun ls (hl : lv_has ls 5 [(4, .int (0:Int32)), (3, cv Φ (some (v13).2)), (2, cv Φ (some (v11).2)), (1, cv Φ (some (v9).2)), (0, cv Φ (some x0))]) => ?_)
  refine lv_iload hx hb dX11_init_126 (lv_at hl 0 rfl) ?_
  refine lv_bipush (v := (30:Int32)) hx hb dX11_init_128 (by decide) ?_
  refine lv_icmp_ge (tgt := 153) hx hb dX11_init_130 rfl (fun hc => absurd hc (by decide)) (fun hc => ?_)
  refine c_aload_n hx hb dX11_init_133 rfl (lv_at hl 4 rfl) ?_
  obtain ⟨v35, hv35, h⟩ := ob h
  refine c_gR X hP hv35 (Nat.le_of_ble_eq_true rfl) (Nat.le_of_ble_eq_true rfl) rfl w_578 dX11_init_134 ?_
  refine lv_iload hx hb dX11_init_137 (lv_at hl 0 rfl) ?_
  refine c_new X hP hS (ci := 9) ⟨Nat.le_of_ble_eq_true rfl, by decide⟩ ⟨w_86, w_88, w_57⟩ (Nat.le_of_ble_eq_true rfl) (Nat.le_of_ble_eq_true rfl) dX11_init_139 (fun H hP hS => ?_)
  refine c_dupq hx hb dX11_init_142 ?_
  obtain ⟨v36, hv36, h⟩ := ob h
  obtain ⟨v37, hv37, h⟩ := ob h
  refine c_cw (c_runIN X (K_X9_init l D Φ (nw v34 9) v36  hv37) hv36 (Nat.le_of_ble_eq_true rfl) ⟨cn_0, ww_X9_init⟩ rfl rfl hy_X9_init rfl ⟨(Nat.le_of_ble_eq_true rfl), (Nat.le_of_ble_eq_true rfl)⟩ hP hS hl.1 (Nat.le_of_ble_eq_true rfl) dX11_init_143 rfl ⟨(Nat.le_of_ble_eq_true rfl), (Nat.le_of_ble_eq_true rfl)⟩) hS (fun H locs hP hS => ?_)
  refine W.eq (g2 := F0 m 146 ls [cv Φ (some (v34).2), .int (0:Int32), cv Φ v35]) rfl ?_
  obtain ⟨v38, hv38, h⟩ := ob h
  refine c_astq X hP hS hv38 ⟨Nat.le_of_ble_eq_true rfl, by decide⟩ rfl dX11_init_146 (fun H locs hP hS => ?_)
  refine c_iinc (v := (1:Int32)) hx hb dX11_init_147 hl (k := 0) rfl (by decide) (Nat.le_of_ble_eq_true rfl) (lvKa rfl (lvKr (lvKa rfl (lvKa rfl (lvKa rfl lvK0))))) rfl (fun ls (hl : lv_has ls 5 [(4, .int (1:Int32)), (3, cv Φ (some (v13).2)), (2, cv Φ (some (v11).2)), (1, cv Φ (some (v9).2)), (0, cv Φ (some x0))]) => ?_)
  refine lv_goto (tgt := 126) hx hb dX11_init_150 rfl ?_
  refine lv_iload hx hb dX11_init_126 (lv_at hl 0 rfl) ?_
  refine lv_bipush (v := (30:Int32)) hx hb dX11_init_128 (by decide) ?_
  refine lv_icmp_ge (tgt := 153) hx hb dX11_init_130 rfl (fun hc => absurd hc (by decide)) (fun hc => ?_)
  refine c_aload_n hx hb dX11_init_133 rfl (lv_at hl 4 rfl) ?_
  obtain ⟨v39, hv39, h⟩ := ob h
  refine c_gR X hP hv39 (Nat.le_of_ble_eq_true rfl) (Nat.le_of_ble_eq_true rfl) rfl w_578 dX11_init_134 ?_
  refine lv_iload hx hb dX11_init_137 (lv_at hl 0 rfl) ?_
  refine c_new X hP hS (ci := 9) ⟨Nat.le_of_ble_eq_true rfl, by decide⟩ ⟨w_86, w_88, w_57⟩ (Nat.le_of_ble_eq_true rfl) (Nat.le_of_ble_eq_true rfl) dX11_init_139 (fun H hP hS => ?_)
  refine c_dupq hx hb dX11_init_142 ?_
  obtain ⟨v40, hv40, h⟩ := ob h
  obtain ⟨v41, hv41, h⟩ := ob h
  refine c_cw (c_runIN X (K_X9_init l D Φ (nw v38 9) v40  hv41) hv40 (Nat.le_of_ble_eq_true rfl) ⟨cn_0, ww_X9_init⟩ rfl rfl hy_X9_init rfl ⟨(Nat.le_of_ble_eq_true rfl), (Nat.le_of_ble_eq_true rfl)⟩ hP hS hl.1 (Nat.le_of_ble_eq_true rfl) dX11_init_143 rfl ⟨(Nat.le_of_ble_eq_true rfl), (Nat.le_of_ble_eq_true rfl)⟩) hS (fun H locs hP hS => ?_)
  refine W.eq (g2 := F0 m 146 ls [cv Φ (some (v38).2), .int (1:Int32), cv Φ v39]) rfl ?_
  obtain ⟨v42, hv42, h⟩ := ob h
  refine c_astq X hP hS hv42 ⟨Nat.le_of_ble_eq_true rfl, by decide⟩ rfl dX11_init_146 (fun H locs hP hS => ?_)
  refine c_iinc (v := (2:Int32)) hx hb dX11_init_147 hl (k := 0) rfl (by decide) (Nat.le_of_ble_eq_true rfl) (lvKa rfl (lvKr (lvKa rfl (lvKa rfl (lvKa rfl lvK0))))) rfl (fun ls (hl : lv_has ls 5 [(4, .int (2:Int32)), (3, cv Φ (some (v13).2)), (2, cv Φ (some (v11).2)), (1, cv Φ (some (v9).2)), (0, cv Φ (some x0))]) => ?_)
  refine lv_goto (tgt := 126) hx hb dX11_init_150 rfl ?_
  refine lv_iload hx hb dX11_init_126 (lv_at hl 0 rfl) ?_
  refine lv_bipush (v := (30:Int32)) hx hb dX11_init_128 (by decide) ?_
  refine lv_icmp_ge (tgt := 153) hx hb dX11_init_130 rfl (fun hc => absurd hc (by decide)) (fun hc => ?_)
  refine c_aload_n hx hb dX11_init_133 rfl (lv_at hl 4 rfl) ?_
  obtain ⟨v43, hv43, h⟩ := ob h
  refine c_gR X hP hv43 (Nat.le_of_ble_eq_true rfl) (Nat.le_of_ble_eq_true rfl) rfl w_578 dX11_init_134 ?_
  refine lv_iload hx hb dX11_init_137 (lv_at hl 0 rfl) ?_
  refine c_new X hP hS (ci := 9) ⟨Nat.le_of_ble_eq_true rfl, by decide⟩ ⟨w_86, w_88, w_57⟩ (Nat.le_of_ble_eq_true rfl) (Nat.le_of_ble_eq_true rfl) dX11_init_139 (fun H hP hS => ?_)
  refine c_dupq hx hb dX11_init_142 ?_
  obtain ⟨v44, hv44, h⟩ := ob h
  obtain ⟨v45, hv45, h⟩ := ob h
  refine c_cw (c_runIN X (K_X9_init l D Φ (nw v42 9) v44  hv45) hv44 (Nat.le_of_ble_eq_true rfl) ⟨cn_0, ww_X9_init⟩ rfl rfl hy_X9_init rfl ⟨(Nat.le_of_ble_eq_true rfl), (Nat.le_of_ble_eq_true rfl)⟩ hP hS hl.1 (Nat.le_of_ble_eq_true rfl) dX11_init_143 rfl ⟨(Nat.le_of_ble_eq_true rfl), (Nat.le_of_ble_eq_true rfl)⟩) hS (fun H locs hP hS => ?_)
  refine W.eq (g2 := F0 m 146 ls [cv Φ (some (v42).2), .int (2:Int32), cv Φ v43]) rfl ?_
  obtain ⟨v46, hv46, h⟩ := ob h
  refine c_astq X hP hS hv46 ⟨Nat.le_of_ble_eq_true rfl, by decide⟩ rfl dX11_init_146 (fun H locs hP hS => ?_)
  refine c_iinc (v := (3:Int32)) hx hb dX11_init_147 hl (k := 0) rfl (by decide) (Nat.le_of_ble_eq_true rfl) (lvKa rfl (lvKr (lvKa rfl (lvKa rfl (lvKa rfl lvK0))))) rfl (fun ls (hl : lv_has ls 5 [(4, .int (3:Int32)), (3, cv Φ (some (v13).2)), (2, cv Φ (some (v11).2)), (1, cv Φ (some (v9).2)), (0, cv Φ (some x0))]) => ?_)
  refine lv_goto (tgt := 126) hx hb dX11_init_150 rfl ?_
  refine lv_iload hx hb dX11_init_126 (lv_at hl 0 rfl) ?_
  refine lv_bipush (v := (30:Int32)) hx hb dX11_init_128 (by decide) ?_
  refine lv_icmp_ge (tgt := 153) hx hb dX11_init_130 rfl (fun hc => absurd hc (by decide)) (fun hc => ?_)
  refine c_aload_n hx hb dX11_init_133 rfl (lv_at hl 4 rfl) ?_
  obtain ⟨v47, hv47, h⟩ := ob h
  refine c_gR X hP hv47 (Nat.le_of_ble_eq_true rfl) (Nat.le_of_ble_eq_true rfl) rfl w_578 dX11_init_134 ?_
  refine lv_iload hx hb dX11_init_137 (lv_at hl 0 rfl) ?_
  refine c_new X hP hS (ci := 9) ⟨Nat.le_of_ble_eq_true rfl, by decide⟩ ⟨w_86, w_88, w_57⟩ (Nat.le_of_ble_eq_true rfl) (Nat.le_of_ble_eq_true rfl) dX11_init_139 (fun H hP hS => ?_)
  refine c_dupq hx hb dX11_init_142 ?_
  obtain ⟨v48, hv48, h⟩ := ob h
  obtain ⟨v49, hv49, h⟩ := ob h
  refine c_cw (c_runIN X (K_X9_init l D Φ (nw v46 9) v48  hv49) hv48 (Nat.le_of_ble_eq_true rfl) ⟨cn_0, ww_X9_init⟩ rfl rfl hy_X9_init rfl ⟨(Nat.le_of_ble_eq_true rfl), (Nat.le_of_ble_eq_true rfl)⟩ hP hS hl.1 (Nat.le_of_ble_eq_true rfl) dX11_init_143 rfl ⟨(Nat.le_of_ble_eq_true rfl), (Nat.le_of_ble_eq_true rfl)⟩) hS (fun H locs hP hS => ?_)
  refine W.eq (g2 := F0 m 146 ls [cv Φ (some (v46).2), .int (3:Int32), cv Φ v47]) rfl ?_
  obtain ⟨v50, hv50, h⟩ := ob h
  refine c_astq X hP hS hv50 ⟨Nat.le_of_ble_eq_true rfl, by decide⟩ rfl dX11_init_146 (fun H locs hP hS => ?_)
  refine c_iinc (v := (4:Int32)) hx hb dX11_init_147 hl (k := 0) rfl (by decide) (Nat.le_of_ble_eq_true rfl) (lvKa rfl (lvKr (lvKa rfl (lvKa rfl (lvKa rfl lvK0))))) rfl (fun ls (hl : lv_has ls 5 [(4, .int (4:Int32)), (3, cv Φ (some (v13).2)), (2, cv Φ (some (v11).2)), (1, cv Φ (some (v9).2)), (0, cv Φ (some x0))]) => ?_)
  refine lv_goto (tgt := 126) hx hb dX11_init_150 rfl ?_
  refine lv_iload hx hb dX11_init_126 (lv_at hl 0 rfl) ?_
  refine lv_bipush (v := (30:Int32)) hx hb dX11_init_128 (by decide) ?_
  refine lv_icmp_ge (tgt := 153) hx hb dX11_init_130 rfl (fun hc => absurd hc (by decide)) (fun hc => ?_)
  refine c_aload_n hx hb dX11_init_133 rfl (lv_at hl 4 rfl) ?_
  obtain ⟨v51, hv51, h⟩ := ob h
  refine c_gR X hP hv51 (Nat.le_of_ble_eq_true rfl) (Nat.le_of_ble_eq_true rfl) rfl w_578 dX11_init_134 ?_
  refine lv_iload hx hb dX11_init_137 (lv_at hl 0 rfl) ?_
  refine c_new X hP hS (ci := 9) ⟨Nat.le_of_ble_eq_true rfl, by decide⟩ ⟨w_86, w_88, w_57⟩ (Nat.le_of_ble_eq_true rfl) (Nat.le_of_ble_eq_true rfl) dX11_init_139 (fun H hP hS => ?_)
  refine c_dupq hx hb dX11_init_142 ?_
  obtain ⟨v52, hv52, h⟩ := ob h
  obtain ⟨v53, hv53, h⟩ := ob h
  refine c_cw (c_runIN X (K_X9_init l D Φ (nw v50 9) v52  hv53) hv52 (Nat.le_of_ble_eq_true rfl) ⟨cn_0, ww_X9_init⟩ rfl rfl hy_X9_init rfl ⟨(Nat.le_of_ble_eq_true rfl), (Nat.le_of_ble_eq_true rfl)⟩ hP hS hl.1 (Nat.le_of_ble_eq_true rfl) dX11_init_143 rfl ⟨(Nat.le_of_ble_eq_true rfl), (Nat.le_of_ble_eq_true rfl)⟩) hS (fun H locs hP hS => ?_)
  refine W.eq (g2 := F0 m 146 ls [cv Φ (some (v50).2), .int (4:Int32), cv Φ v51]) rfl ?_
  obtain ⟨v54, hv54, h⟩ := ob h
  refine c_astq X hP hS hv54 ⟨Nat.le_of_ble_eq_true rfl, by decide⟩ rfl dX11_init_146 (fun H locs hP hS => ?_)
  refine c_iinc (v := (5:Int32)) hx hb dX11_init_147 hl (k := 0) rfl (by decide) (Nat.le_of_ble_eq_true rfl) (lvKa rfl (lvKr (lvKa rfl (lvKa rfl (lvKa rfl lvK0))))) rfl (fun ls (hl : lv_has ls 5 [(4, .int (5:Int32)), (3, cv Φ (some (v13).2)), (2, cv Φ (some (v11).2)), (1, cv Φ (some (v9).2)), (0, cv Φ (some x0))]) => ?_)
  refine lv_goto (tgt := 126) hx hb dX11_init_150 rfl ?_
  refine lv_iload hx hb dX11_init_126 (lv_at hl 0 rfl) ?_
  refine lv_bipush (v := (30:Int32)) hx hb dX11_init_128 (by decide) ?_
  refine lv_icmp_ge (tgt := 153) hx hb dX11_init_130 rfl (fun hc => absurd hc (by decide)) (fun hc => ?_)
  refine c_aload_n hx hb dX11_init_133 rfl (lv_at hl 4 rfl) ?_
  obtain ⟨v55, hv55, h⟩ := ob h
  refine c_gR X hP hv55 (Nat.le_of_ble_eq_true rfl) (Nat.le_of_ble_eq_true rfl) rfl w_578 dX11_init_134 ?_
  refine lv_iload hx hb dX11_init_137 (lv_at hl 0 rfl) ?_
  refine c_new X hP hS (ci := 9) ⟨Nat.le_of_ble_eq_true rfl, by decide⟩ ⟨w_86, w_88, w_57⟩ (Nat.le_of_ble_eq_true rfl) (Nat.le_of_ble_eq_true rfl) dX11_init_139 (fun H hP hS => ?_)
  refine c_dupq hx hb dX11_init_142 ?_
  obtain ⟨v56, hv56, h⟩ := ob h
  obtain ⟨v57, hv57, h⟩ := ob h
  refine c_cw (c_runIN X (K_X9_init l D Φ (nw v54 9) v56  hv57) hv56 (Nat.le_of_ble_eq_true rfl) ⟨cn_0, ww_X9_init⟩ rfl rfl hy_X9_init rfl ⟨(Nat.le_of_ble_eq_true rfl), (Nat.le_of_ble_eq_true rfl)⟩ hP hS hl.1 (Nat.le_of_ble_eq_true rfl) dX11_init_143 rfl ⟨(Nat.le_of_ble_eq_true rfl), (Nat.le_of_ble_eq_true rfl)⟩) hS (fun H locs hP hS => ?_)
  refine W.eq (g2 := F0 m 146 ls [cv Φ (some (v54).2), .int (5:Int32), cv Φ v55]) rfl ?_
  obtain ⟨v58, hv58, h⟩ := ob h
  refine c_astq X hP hS hv58 ⟨Nat.le_of_ble_eq_true rfl, by decide⟩ rfl dX11_init_146 (fun H locs hP hS => ?_)
  refine c_iinc (v := (6:Int32)) hx hb dX11_init_147 hl (k := 0) rfl (by decide) (Nat.le_of_ble_eq_true rfl) (lvKa rfl (lvKr (lvKa rfl (lvKa rfl (lvKa rfl lvK0))))) rfl (fun ls (hl : lv_has ls 5 [(4, .int (6:Int32)), (3, cv Φ (some (v13).2)), (2, cv Φ (some (v11).2)), (1, cv Φ (some (v9).2)), (0, cv Φ (some x0))]) => ?_)
  refine lv_goto (tgt := 126) hx hb dX11_init_150 rfl ?_
  refine lv_iload hx hb dX11_init_126 (lv_at hl 0 rfl) ?_
  refine lv_bipush (v := (30:Int32)) hx hb dX11_init_128 (by decide) ?_
  refine lv_icmp_ge (tgt := 153) hx hb dX11_init_130 rfl (fun hc => absurd hc (by decide)) (fun hc => ?_)
  refine c_aload_n hx hb dX11_init_133 rfl (lv_at hl 4 rfl) ?_
  obtain ⟨v59, hv59, h⟩ := ob h
  refine c_gR X hP hv59 (Nat.le_of_ble_eq_true rfl) (Nat.le_of_ble_eq_true rfl) rfl w_578 dX11_init_134 ?_
  refine lv_iload hx hb dX11_init_137 (lv_at hl 0 rfl) ?_
  refine c_new X hP hS (ci := 9) ⟨Nat.le_of_ble_eq_true rfl, by decide⟩ ⟨w_86, w_88, w_57⟩ (Nat.le_of_ble_eq_true rfl) (Nat.le_of_ble_eq_true rfl) dX11_init_139 (fun H hP hS => ?_)
  refine c_dupq hx hb dX11_init_142 ?_
  obtain ⟨v60, hv60, h⟩ := ob h
  obtain ⟨v61, hv61, h⟩ := ob h
  refine c_cw (c_runIN X (K_X9_init l D Φ (nw v58 9) v60  hv61) hv60 (Nat.le_of_ble_eq_true rfl) ⟨cn_0, ww_X9_init⟩ rfl rfl hy_X9_init rfl ⟨(Nat.le_of_ble_eq_true rfl), (Nat.le_of_ble_eq_true rfl)⟩ hP hS hl.1 (Nat.le_of_ble_eq_true rfl) dX11_init_143 rfl ⟨(Nat.le_of_ble_eq_true rfl), (Nat.le_of_ble_eq_true rfl)⟩) hS (fun H locs hP hS => ?_)
  refine W.eq (g2 := F0 m 146 ls [cv Φ (some (v58).2), .int (6:Int32), cv Φ v59]) rfl ?_
  obtain ⟨v62, hv62, h⟩ := ob h
  refine c_astq X hP hS hv62 ⟨Nat.le_of_ble_eq_true rfl, by decide⟩ rfl dX11_init_146 (fun H locs hP hS => ?_)
  refine c_iinc (v := (7:Int32)) hx hb dX11_init_147 hl (k := 0) rfl (by decide) (Nat.le_of_ble_eq_true rfl) (lvKa rfl (lvKr (lvKa rfl (lvKa rfl (lvKa rfl lvK0))))) rfl (fun ls (hl : lv_has ls 5 [(4, .int (7:Int32)), (3, cv Φ (some (v13).2)), (2, cv Φ (some (v11).2)), (1, cv Φ (some (v9).2)), (0, cv Φ (some x0))]) => ?_)
  refine lv_goto (tgt := 126) hx hb dX11_init_150 rfl ?_
  refine lv_iload hx hb dX11_init_126 (lv_at hl 0 rfl) ?_
  refine lv_bipush (v := (30:Int32)) hx hb dX11_init_128 (by decide) ?_
  refine lv_icmp_ge (tgt := 153) hx hb dX11_init_130 rfl (fun hc => absurd hc (by decide)) (fun hc => ?_)
  refine c_aload_n hx hb dX11_init_133 rfl (lv_at hl 4 rfl) ?_
  obtain ⟨v63, hv63, h⟩ := ob h
  refine c_gR X hP hv63 (Nat.le_of_ble_eq_true rfl) (Nat.le_of_ble_eq_true rfl) rfl w_578 dX11_init_134 ?_
  refine lv_iload hx hb dX11_init_137 (lv_at hl 0 rfl) ?_
  refine c_new X hP hS (ci := 9) ⟨Nat.le_of_ble_eq_true rfl, by decide⟩ ⟨w_86, w_88, w_57⟩ (Nat.le_of_ble_eq_true rfl) (Nat.le_of_ble_eq_true rfl) dX11_init_139 (fun H hP hS => ?_)
  refine c_dupq hx hb dX11_init_142 ?_
  obtain ⟨v64, hv64, h⟩ := ob h
  obtain ⟨v65, hv65, h⟩ := ob h
  refine c_cw (c_runIN X (K_X9_init l D Φ (nw v62 9) v64  hv65) hv64 (Nat.le_of_ble_eq_true rfl) ⟨cn_0, ww_X9_init⟩ rfl rfl hy_X9_init rfl ⟨(Nat.le_of_ble_eq_true rfl), (Nat.le_of_ble_eq_true rfl)⟩ hP hS hl.1 (Nat.le_of_ble_eq_true rfl) dX11_init_143 rfl ⟨(Nat.le_of_ble_eq_true rfl), (Nat.le_of_ble_eq_true rfl)⟩) hS (fun H locs hP hS => ?_)
  refine W.eq (g2 := F0 m 146 ls [cv Φ (some (v62).2), .int (7:Int32), cv Φ v63]) rfl ?_
  obtain ⟨v66, hv66, h⟩ := ob h
  refine c_astq X hP hS hv66 ⟨Nat.le_of_ble_eq_true rfl, by decide⟩ rfl dX11_init_146 (fun H locs hP hS => ?_)
  refine c_iinc (v := (8:Int32)) hx hb dX11_init_147 hl (k := 0) rfl (by decide) (Nat.le_of_ble_eq_true rfl) (lvKa rfl (lvKr (lvKa rfl (lvKa rfl (lvKa rfl lvK0))))) rfl (fun ls (hl : lv_has ls 5 [(4, .int (8:Int32)), (3, cv Φ (some (v13).2)), (2, cv Φ (some (v11).2)), (1, cv Φ (some (v9).2)), (0, cv Φ (some x0))]) => ?_)
  refine lv_goto (tgt := 126) hx hb dX11_init_150 rfl ?_
  refine lv_iload hx hb dX11_init_126 (lv_at hl 0 rfl) ?_
  refine lv_bipush (v := (30:Int32)) hx hb dX11_init_128 (by decide) ?_
  refine lv_icmp_ge (tgt := 153) hx hb dX11_init_130 rfl (fun hc => absurd hc (by decide)) (fun hc => ?_)
  refine c_aload_n hx hb dX11_init_133 rfl (lv_at hl 4 rfl) ?_
  obtain ⟨v67, hv67, h⟩ := ob h
  refine c_gR X hP hv67 (Nat.le_of_ble_eq_true rfl) (Nat.le_of_ble_eq_true rfl) rfl w_578 dX11_init_134 ?_
  refine lv_iload hx hb dX11_init_137 (lv_at hl 0 rfl) ?_
  refine c_new X hP hS (ci := 9) ⟨Nat.le_of_ble_eq_true rfl, by decide⟩ ⟨w_86, w_88, w_57⟩ (Nat.le_of_ble_eq_true rfl) (Nat.le_of_ble_eq_true rfl) dX11_init_139 (fun H hP hS => ?_)
  refine c_dupq hx hb dX11_init_142 ?_
  obtain ⟨v68, hv68, h⟩ := ob h
  obtain ⟨v69, hv69, h⟩ := ob h
  refine c_cw (c_runIN X (K_X9_init l D Φ (nw v66 9) v68  hv69) hv68 (Nat.le_of_ble_eq_true rfl) ⟨cn_0, ww_X9_init⟩ rfl rfl hy_X9_init rfl ⟨(Nat.le_of_ble_eq_true rfl), (Nat.le_of_ble_eq_true rfl)⟩ hP hS hl.1 (Nat.le_of_ble_eq_true rfl) dX11_init_143 rfl ⟨(Nat.le_of_ble_eq_true rfl), (Nat.le_of_ble_eq_true rfl)⟩) hS (fun H locs hP hS => ?_)
  refine W.eq (g2 := F0 m 146 ls [cv Φ (some (v66).2), .int (8:Int32), cv Φ v67]) rfl ?_
  obtain ⟨v70, hv70, h⟩ := ob h
  refine c_astq X hP hS hv70 ⟨Nat.le_of_ble_eq_true rfl, by decide⟩ rfl dX11_init_146 (fun H locs hP hS => ?_)
  refine c_iinc (v := (9:Int32)) hx hb dX11_init_147 hl (k := 0) rfl (by decide) (Nat.le_of_ble_eq_true rfl) (lvKa rfl (lvKr (lvKa rfl (lvKa rfl (lvKa rfl lvK0))))) rfl (fun ls (hl : lv_has ls 5 [(4, .int (9:Int32)), (3, cv Φ (some (v13).2)), (2, cv Φ (some (v11).2)), (1, cv Φ (some (v9).2)), (0, cv Φ (some x0))]) => ?_)
  refine lv_goto (tgt := 126) hx hb dX11_init_150 rfl ?_
  refine lv_iload hx hb dX11_init_126 (lv_at hl 0 rfl) ?_
  refine lv_bipush (v := (30:Int32)) hx hb dX11_init_128 (by decide) ?_
  refine lv_icmp_ge (tgt := 153) hx hb dX11_init_130 rfl (fun hc => absurd hc (by decide)) (fun hc => ?_)
  refine c_aload_n hx hb dX11_init_133 rfl (lv_at hl 4 rfl) ?_
  obtain ⟨v71, hv71, h⟩ := ob h
  refine c_gR X hP hv71 (Nat.le_of_ble_eq_true rfl) (Nat.le_of_ble_eq_true rfl) rfl w_578 dX11_init_134 ?_
  refine lv_iload hx hb dX11_init_137 (lv_at hl 0 rfl) ?_
  refine c_new X hP hS (ci := 9) ⟨Nat.le_of_ble_eq_true rfl, by decide⟩ ⟨w_86, w_88, w_57⟩ (Nat.le_of_ble_eq_true rfl) (Nat.le_of_ble_eq_true rfl) dX11_init_139 (fun H hP hS => ?_)
  refine c_dupq hx hb dX11_init_142 ?_
  obtain ⟨v72, hv72, h⟩ := ob h
  obtain ⟨v73, hv73, h⟩ := ob h
  refine c_cw (c_runIN X (K_X9_init l D Φ (nw v70 9) v72  hv73) hv72 (Nat.le_of_ble_eq_true rfl) ⟨cn_0, ww_X9_init⟩ rfl rfl hy_X9_init rfl ⟨(Nat.le_of_ble_eq_true rfl), (Nat.le_of_ble_eq_true rfl)⟩ hP hS hl.1 (Nat.le_of_ble_eq_true rfl) dX11_init_143 rfl ⟨(Nat.le_of_ble_eq_true rfl), (Nat.le_of_ble_eq_true rfl)⟩) hS (fun H locs hP hS => ?_)
  refine W.eq (g2 := F0 m 146 ls [cv Φ (some (v70).2), .int (9:Int32), cv Φ v71]) rfl ?_
  obtain ⟨v74, hv74, h⟩ := ob h
  refine c_astq X hP hS hv74 ⟨Nat.le_of_ble_eq_true rfl, by decide⟩ rfl dX11_init_146 (fun H locs hP hS => ?_)
  refine c_iinc (v := (10:Int32)) hx hb dX11_init_147 hl (k := 0) rfl (by decide) (Nat.le_of_ble_eq_true rfl) (lvKa rfl (lvKr (lvKa rfl (lvKa rfl (lvKa rfl lvK0))))) rfl (fun ls (hl : lv_has ls 5 [(4, .int (10:Int32)), (3, cv Φ (some (v13).2)), (2, cv Φ (some (v11).2)), (1, cv Φ (some (v9).2)), (0, cv Φ (some x0))]) => ?_)
  refine lv_goto (tgt := 126) hx hb dX11_init_150 rfl ?_
  refine lv_iload hx hb dX11_init_126 (lv_at hl 0 rfl) ?_
  refine lv_bipush (v := (30:Int32)) hx hb dX11_init_128 (by decide) ?_
  refine lv_icmp_ge (tgt := 153) hx hb dX11_init_130 rfl (fun hc => absurd hc (by decide)) (fun hc => ?_)
  refine c_aload_n hx hb dX11_init_133 rfl (lv_at hl 4 rfl) ?_
  obtain ⟨v75, hv75, h⟩ := ob h
  refine c_gR X hP hv75 (Nat.le_of_ble_eq_true rfl) (Nat.le_of_ble_eq_true rfl) rfl w_578 dX11_init_134 ?_
  refine lv_iload hx hb dX11_init_137 (lv_at hl 0 rfl) ?_
  refine c_new X hP hS (ci := 9) ⟨Nat.le_of_ble_eq_true rfl, by decide⟩ ⟨w_86, w_88, w_57⟩ (Nat.le_of_ble_eq_true rfl) (Nat.le_of_ble_eq_true rfl) dX11_init_139 (fun H hP hS => ?_)
  refine c_dupq hx hb dX11_init_142 ?_
  obtain ⟨v76, hv76, h⟩ := ob h
  obtain ⟨v77, hv77, h⟩ := ob h
  refine c_cw (c_runIN X (K_X9_init l D Φ (nw v74 9) v76  hv77) hv76 (Nat.le_of_ble_eq_true rfl) ⟨cn_0, ww_X9_init⟩ rfl rfl hy_X9_init rfl ⟨(Nat.le_of_ble_eq_true rfl), (Nat.le_of_ble_eq_true rfl)⟩ hP hS hl.1 (Nat.le_of_ble_eq_true rfl) dX11_init_143 rfl ⟨(Nat.le_of_ble_eq_true rfl), (Nat.le_of_ble_eq_true rfl)⟩) hS (fun H locs hP hS => ?_)
  refine W.eq (g2 := F0 m 146 ls [cv Φ (some (v74).2), .int (10:Int32), cv Φ v75]) rfl ?_
  obtain ⟨v78, hv78, h⟩ := ob h
  refine c_astq X hP hS hv78 ⟨Nat.le_of_ble_eq_true rfl, by decide⟩ rfl dX11_init_146 (fun H locs hP hS => ?_)
  refine c_iinc (v := (11:Int32)) hx hb dX11_init_147 hl (k := 0) rfl (by decide) (Nat.le_of_ble_eq_true rfl) (lvKa rfl (lvKr (lvKa rfl (lvKa rfl (lvKa rfl lvK0))))) rfl (fun ls (hl : lv_has ls 5 [(4, .int (11:Int32)), (3, cv Φ (some (v13).2)), (2, cv Φ (some (v11).2)), (1, cv Φ (some (v9).2)), (0, cv Φ (some x0))]) => ?_)
  refine lv_goto (tgt := 126) hx hb dX11_init_150 rfl ?_
  refine lv_iload hx hb dX11_init_126 (lv_at hl 0 rfl) ?_
  refine lv_bipush (v := (30:Int32)) hx hb dX11_init_128 (by decide) ?_
  refine lv_icmp_ge (tgt := 153) hx hb dX11_init_130 rfl (fun hc => absurd hc (by decide)) (fun hc => ?_)
  refine c_aload_n hx hb dX11_init_133 rfl (lv_at hl 4 rfl) ?_
  obtain ⟨v79, hv79, h⟩ := ob h
  refine c_gR X hP hv79 (Nat.le_of_ble_eq_true rfl) (Nat.le_of_ble_eq_true rfl) rfl w_578 dX11_init_134 ?_
  refine lv_iload hx hb dX11_init_137 (lv_at hl 0 rfl) ?_
  refine c_new X hP hS (ci := 9) ⟨Nat.le_of_ble_eq_true rfl, by decide⟩ ⟨w_86, w_88, w_57⟩ (Nat.le_of_ble_eq_true rfl) (Nat.le_of_ble_eq_true rfl) dX11_init_139 (fun H hP hS => ?_)
  refine c_dupq hx hb dX11_init_142 ?_
  obtain ⟨v80, hv80, h⟩ := ob h
  obtain ⟨v81, hv81, h⟩ := ob h
  refine c_cw (c_runIN X (K_X9_init l D Φ (nw v78 9) v80  hv81) hv80 (Nat.le_of_ble_eq_true rfl) ⟨cn_0, ww_X9_init⟩ rfl rfl hy_X9_init rfl ⟨(Nat.le_of_ble_eq_true rfl), (Nat.le_of_ble_eq_true rfl)⟩ hP hS hl.1 (Nat.le_of_ble_eq_true rfl) dX11_init_143 rfl ⟨(Nat.le_of_ble_eq_true rfl), (Nat.le_of_ble_eq_true rfl)⟩) hS (fun H locs hP hS => ?_)
  refine W.eq (g2 := F0 m 146 ls [cv Φ (some (v78).2), .int (11:Int32), cv Φ v79]) rfl ?_
  obtain ⟨v82, hv82, h⟩ := ob h
  refine c_astq X hP hS hv82 ⟨Nat.le_of_ble_eq_true rfl, by decide⟩ rfl dX11_init_146 (fun H locs hP hS => ?_)
  refine c_iinc (v := (12:Int32)) hx hb dX11_init_147 hl (k := 0) rfl (by decide) (Nat.le_of_ble_eq_true rfl) (lvKa rfl (lvKr (lvKa rfl (lvKa rfl (lvKa rfl lvK0))))) rfl (fun ls (hl : lv_has ls 5 [(4, .int (12:Int32)), (3, cv Φ (some (v13).2)), (2, cv Φ (some (v11).2)), (1, cv Φ (some (v9).2)), (0, cv Φ (some x0))]) => ?_)
  refine lv_goto (tgt := 126) hx hb dX11_init_150 rfl ?_
  refine lv_iload hx hb dX11_init_126 (lv_at hl 0 rfl) ?_
  refine lv_bipush (v := (30:Int32)) hx hb dX11_init_128 (by decide) ?_
  refine lv_icmp_ge (tgt := 153) hx hb dX11_init_130 rfl (fun hc => absurd hc (by decide)) (fun hc => ?_)
  refine c_aload_n hx hb dX11_init_133 rfl (lv_at hl 4 rfl) ?_
  obtain ⟨v83, hv83, h⟩ := ob h
  refine c_gR X hP hv83 (Nat.le_of_ble_eq_true rfl) (Nat.le_of_ble_eq_true rfl) rfl w_578 dX11_init_134 ?_
  refine lv_iload hx hb dX11_init_137 (lv_at hl 0 rfl) ?_
  refine c_new X hP hS (ci := 9) ⟨Nat.le_of_ble_eq_true rfl, by decide⟩ ⟨w_86, w_88, w_57⟩ (Nat.le_of_ble_eq_true rfl) (Nat.le_of_ble_eq_true rfl) dX11_init_139 (fun H hP hS => ?_)
  refine c_dupq hx hb dX11_init_142 ?_
  obtain ⟨v84, hv84, h⟩ := ob h
  obtain ⟨v85, hv85, h⟩ := ob h
  refine c_cw (c_runIN X (K_X9_init l D Φ (nw v82 9) v84  hv85) hv84 (Nat.le_of_ble_eq_true rfl) ⟨cn_0, ww_X9_init⟩ rfl rfl hy_X9_init rfl ⟨(Nat.le_of_ble_eq_true rfl), (Nat.le_of_ble_eq_true rfl)⟩ hP hS hl.1 (Nat.le_of_ble_eq_true rfl) dX11_init_143 rfl ⟨(Nat.le_of_ble_eq_true rfl), (Nat.le_of_ble_eq_true rfl)⟩) hS (fun H locs hP hS => ?_)
  refine W.eq (g2 := F0 m 146 ls [cv Φ (some (v82).2), .int (12:Int32), cv Φ v83]) rfl ?_
  obtain ⟨v86, hv86, h⟩ := ob h
  refine c_astq X hP hS hv86 ⟨Nat.le_of_ble_eq_true rfl, by decide⟩ rfl dX11_init_146 (fun H locs hP hS => ?_)
  refine c_iinc (v := (13:Int32)) hx hb dX11_init_147 hl (k := 0) rfl (by decide) (Nat.le_of_ble_eq_true rfl) (lvKa rfl (lvKr (lvKa rfl (lvKa rfl (lvKa rfl lvK0))))) rfl (fun ls (hl : lv_has ls 5 [(4, .int (13:Int32)), (3, cv Φ (some (v13).2)), (2, cv Φ (some (v11).2)), (1, cv Φ (some (v9).2)), (0, cv Φ (some x0))]) => ?_)
  refine lv_goto (tgt := 126) hx hb dX11_init_150 rfl ?_
  refine lv_iload hx hb dX11_init_126 (lv_at hl 0 rfl) ?_
  refine lv_bipush (v := (30:Int32)) hx hb dX11_init_128 (by decide) ?_
  refine lv_icmp_ge (tgt := 153) hx hb dX11_init_130 rfl (fun hc => absurd hc (by decide)) (fun hc => ?_)
  refine c_aload_n hx hb dX11_init_133 rfl (lv_at hl 4 rfl) ?_
  obtain ⟨v87, hv87, h⟩ := ob h
  refine c_gR X hP hv87 (Nat.le_of_ble_eq_true rfl) (Nat.le_of_ble_eq_true rfl) rfl w_578 dX11_init_134 ?_
  refine lv_iload hx hb dX11_init_137 (lv_at hl 0 rfl) ?_
  refine c_new X hP hS (ci := 9) ⟨Nat.le_of_ble_eq_true rfl, by decide⟩ ⟨w_86, w_88, w_57⟩ (Nat.le_of_ble_eq_true rfl) (Nat.le_of_ble_eq_true rfl) dX11_init_139 (fun H hP hS => ?_)
  refine c_dupq hx hb dX11_init_142 ?_
  obtain ⟨v88, hv88, h⟩ := ob h
  obtain ⟨v89, hv89, h⟩ := ob h
  refine c_cw (c_runIN X (K_X9_init l D Φ (nw v86 9) v88  hv89) hv88 (Nat.le_of_ble_eq_true rfl) ⟨cn_0, ww_X9_init⟩ rfl rfl hy_X9_init rfl ⟨(Nat.le_of_ble_eq_true rfl), (Nat.le_of_ble_eq_true rfl)⟩ hP hS hl.1 (Nat.le_of_ble_eq_true rfl) dX11_init_143 rfl ⟨(Nat.le_of_ble_eq_true rfl), (Nat.le_of_ble_eq_true rfl)⟩) hS (fun H locs hP hS => ?_)
  refine W.eq (g2 := F0 m 146 ls [cv Φ (some (v86).2), .int (13:Int32), cv Φ v87]) rfl ?_
  obtain ⟨v90, hv90, h⟩ := ob h
  refine c_astq X hP hS hv90 ⟨Nat.le_of_ble_eq_true rfl, by decide⟩ rfl dX11_init_146 (fun H locs hP hS => ?_)
  refine c_iinc (v := (14:Int32)) hx hb dX11_init_147 hl (k := 0) rfl (by decide) (Nat.le_of_ble_eq_true rfl) (lvKa rfl (lvKr (lvKa rfl (lvKa rfl (lvKa rfl lvK0))))) rfl (fun ls (hl : lv_has ls 5 [(4, .int (14:Int32)), (3, cv Φ (some (v13).2)), (2, cv Φ (some (v11).2)), (1, cv Φ (some (v9).2)), (0, cv Φ (some x0))]) => ?_)
  refine lv_goto (tgt := 126) hx hb dX11_init_150 rfl ?_
  refine lv_iload hx hb dX11_init_126 (lv_at hl 0 rfl) ?_
  refine lv_bipush (v := (30:Int32)) hx hb dX11_init_128 (by decide) ?_
  refine lv_icmp_ge (tgt := 153) hx hb dX11_init_130 rfl (fun hc => absurd hc (by decide)) (fun hc => ?_)
  refine c_aload_n hx hb dX11_init_133 rfl (lv_at hl 4 rfl) ?_
  obtain ⟨v91, hv91, h⟩ := ob h
  refine c_gR X hP hv91 (Nat.le_of_ble_eq_true rfl) (Nat.le_of_ble_eq_true rfl) rfl w_578 dX11_init_134 ?_
  refine lv_iload hx hb dX11_init_137 (lv_at hl 0 rfl) ?_
  refine c_new X hP hS (ci := 9) ⟨Nat.le_of_ble_eq_true rfl, by decide⟩ ⟨w_86, w_88, w_57⟩ (Nat.le_of_ble_eq_true rfl) (Nat.le_of_ble_eq_true rfl) dX11_init_139 (fun H hP hS => ?_)
  refine c_dupq hx hb dX11_init_142 ?_
  obtain ⟨v92, hv92, h⟩ := ob h
  obtain ⟨v93, hv93, h⟩ := ob h
  refine c_cw (c_runIN X (K_X9_init l D Φ (nw v90 9) v92  hv93) hv92 (Nat.le_of_ble_eq_true rfl) ⟨cn_0, ww_X9_init⟩ rfl rfl hy_X9_init rfl ⟨(Nat.le_of_ble_eq_true rfl), (Nat.le_of_ble_eq_true rfl)⟩ hP hS hl.1 (Nat.le_of_ble_eq_true rfl) dX11_init_143 rfl ⟨(Nat.le_of_ble_eq_true rfl), (Nat.le_of_ble_eq_true rfl)⟩) hS (fun H locs hP hS => ?_)
  refine W.eq (g2 := F0 m 146 ls [cv Φ (some (v90).2), .int (14:Int32), cv Φ v91]) rfl ?_
  obtain ⟨v94, hv94, h⟩ := ob h
  refine c_astq X hP hS hv94 ⟨Nat.le_of_ble_eq_true rfl, by decide⟩ rfl dX11_init_146 (fun H locs hP hS => ?_)
  refine c_iinc (v := (15:Int32)) hx hb dX11_init_147 hl (k := 0) rfl (by decide) (Nat.le_of_ble_eq_true rfl) (lvKa rfl (lvKr (lvKa rfl (lvKa rfl (lvKa rfl lvK0))))) rfl (fun ls (hl : lv_has ls 5 [(4, .int (15:Int32)), (3, cv Φ (some (v13).2)), (2, cv Φ (some (v11).2)), (1, cv Φ (some (v9).2)), (0, cv Φ (some x0))]) => ?_)
  refine lv_goto (tgt := 126) hx hb dX11_init_150 rfl ?_
  refine lv_iload hx hb dX11_init_126 (lv_at hl 0 rfl) ?_
  refine lv_bipush (v := (30:Int32)) hx hb dX11_init_128 (by decide) ?_
  refine lv_icmp_ge (tgt := 153) hx hb dX11_init_130 rfl (fun hc => absurd hc (by decide)) (fun hc => ?_)
  refine c_aload_n hx hb dX11_init_133 rfl (lv_at hl 4 rfl) ?_
  obtain ⟨v95, hv95, h⟩ := ob h
  refine c_gR X hP hv95 (Nat.le_of_ble_eq_true rfl) (Nat.le_of_ble_eq_true rfl) rfl w_578 dX11_init_134 ?_
  refine lv_iload hx hb dX11_init_137 (lv_at hl 0 rfl) ?_
  refine c_new X hP hS (ci := 9) ⟨Nat.le_of_ble_eq_true rfl, by decide⟩ ⟨w_86, w_88, w_57⟩ (Nat.le_of_ble_eq_true rfl) (Nat.le_of_ble_eq_true rfl) dX11_init_139 (fun H hP hS => ?_)
  refine c_dupq hx hb dX11_init_142 ?_
  obtain ⟨v96, hv96, h⟩ := ob h
  obtain ⟨v97, hv97, h⟩ := ob h
  refine c_cw (c_runIN X (K_X9_init l D Φ (nw v94 9) v96  hv97) hv96 (Nat.le_of_ble_eq_true rfl) ⟨cn_0, ww_X9_init⟩ rfl rfl hy_X9_init rfl ⟨(Nat.le_of_ble_eq_true rfl), (Nat.le_of_ble_eq_true rfl)⟩ hP hS hl.1 (Nat.le_of_ble_eq_true rfl) dX11_init_143 rfl ⟨(Nat.le_of_ble_eq_true rfl), (Nat.le_of_ble_eq_true rfl)⟩) hS (fun H locs hP hS => ?_)
  refine W.eq (g2 := F0 m 146 ls [cv Φ (some (v94).2), .int (15:Int32), cv Φ v95]) rfl ?_
  obtain ⟨v98, hv98, h⟩ := ob h
  refine c_astq X hP hS hv98 ⟨Nat.le_of_ble_eq_true rfl, by decide⟩ rfl dX11_init_146 (fun H locs hP hS => ?_)
  refine c_iinc (v := (16:Int32)) hx hb dX11_init_147 hl (k := 0) rfl (by decide) (Nat.le_of_ble_eq_true rfl) (lvKa rfl (lvKr (lvKa rfl (lvKa rfl (lvKa rfl lvK0))))) rfl (fun ls (hl : lv_has ls 5 [(4, .int (16:Int32)), (3, cv Φ (some (v13).2)), (2, cv Φ (some (v11).2)), (1, cv Φ (some (v9).2)), (0, cv Φ (some x0))]) => ?_)
  refine lv_goto (tgt := 126) hx hb dX11_init_150 rfl ?_
  refine lv_iload hx hb dX11_init_126 (lv_at hl 0 rfl) ?_
  refine lv_bipush (v := (30:Int32)) hx hb dX11_init_128 (by decide) ?_
  refine lv_icmp_ge (tgt := 153) hx hb dX11_init_130 rfl (fun hc => absurd hc (by decide)) (fun hc => ?_)
  refine c_aload_n hx hb dX11_init_133 rfl (lv_at hl 4 rfl) ?_
  obtain ⟨v99, hv99, h⟩ := ob h
  refine c_gR X hP hv99 (Nat.le_of_ble_eq_true rfl) (Nat.le_of_ble_eq_true rfl) rfl w_578 dX11_init_134 ?_
  refine lv_iload hx hb dX11_init_137 (lv_at hl 0 rfl) ?_
  refine c_new X hP hS (ci := 9) ⟨Nat.le_of_ble_eq_true rfl, by decide⟩ ⟨w_86, w_88, w_57⟩ (Nat.le_of_ble_eq_true rfl) (Nat.le_of_ble_eq_true rfl) dX11_init_139 (fun H hP hS => ?_)
  refine c_dupq hx hb dX11_init_142 ?_
  obtain ⟨v100, hv100, h⟩ := ob h
  obtain ⟨v101, hv101, h⟩ := ob h
  refine c_cw (c_runIN X (K_X9_init l D Φ (nw v98 9) v100  hv101) hv100 (Nat.le_of_ble_eq_true rfl) ⟨cn_0, ww_X9_init⟩ rfl rfl hy_X9_init rfl ⟨(Nat.le_of_ble_eq_true rfl), (Nat.le_of_ble_eq_true rfl)⟩ hP hS hl.1 (Nat.le_of_ble_eq_true rfl) dX11_init_143 rfl ⟨(Nat.le_of_ble_eq_true rfl), (Nat.le_of_ble_eq_true rfl)⟩) hS (fun H locs hP hS => ?_)
  refine W.eq (g2 := F0 m 146 ls [cv Φ (some (v98).2), .int (16:Int32), cv Φ v99]) rfl ?_
  obtain ⟨v102, hv102, h⟩ := ob h
  refine c_astq X hP hS hv102 ⟨Nat.le_of_ble_eq_true rfl, by decide⟩ rfl dX11_init_146 (fun H locs hP hS => ?_)
  refine c_iinc (v := (17:Int32)) hx hb dX11_init_147 hl (k := 0) rfl (by decide) (Nat.le_of_ble_eq_true rfl) (lvKa rfl (lvKr (lvKa rfl (lvKa rfl (lvKa rfl lvK0))))) rfl (fun ls (hl : lv_has ls 5 [(4, .int (17:Int32)), (3, cv Φ (some (v13).2)), (2, cv Φ (some (v11).2)), (1, cv Φ (some (v9).2)), (0, cv Φ (some x0))]) => ?_)
  refine lv_goto (tgt := 126) hx hb dX11_init_150 rfl ?_
  refine lv_iload hx hb dX11_init_126 (lv_at hl 0 rfl) ?_
  refine lv_bipush (v := (30:Int32)) hx hb dX11_init_128 (by decide) ?_
  refine lv_icmp_ge (tgt := 153) hx hb dX11_init_130 rfl (fun hc => absurd hc (by decide)) (fun hc => ?_)
  refine c_aload_n hx hb dX11_init_133 rfl (lv_at hl 4 rfl) ?_
  obtain ⟨v103, hv103, h⟩ := ob h
  refine c_gR X hP hv103 (Nat.le_of_ble_eq_true rfl) (Nat.le_of_ble_eq_true rfl) rfl w_578 dX11_init_134 ?_
  refine lv_iload hx hb dX11_init_137 (lv_at hl 0 rfl) ?_
  refine c_new X hP hS (ci := 9) ⟨Nat.le_of_ble_eq_true rfl, by decide⟩ ⟨w_86, w_88, w_57⟩ (Nat.le_of_ble_eq_true rfl) (Nat.le_of_ble_eq_true rfl) dX11_init_139 (fun H hP hS => ?_)
  refine c_dupq hx hb dX11_init_142 ?_
  obtain ⟨v104, hv104, h⟩ := ob h
  obtain ⟨v105, hv105, h⟩ := ob h
  refine c_cw (c_runIN X (K_X9_init l D Φ (nw v102 9) v104  hv105) hv104 (Nat.le_of_ble_eq_true rfl) ⟨cn_0, ww_X9_init⟩ rfl rfl hy_X9_init rfl ⟨(Nat.le_of_ble_eq_true rfl), (Nat.le_of_ble_eq_true rfl)⟩ hP hS hl.1 (Nat.le_of_ble_eq_true rfl) dX11_init_143 rfl ⟨(Nat.le_of_ble_eq_true rfl), (Nat.le_of_ble_eq_true rfl)⟩) hS (fun H locs hP hS => ?_)
  refine W.eq (g2 := F0 m 146 ls [cv Φ (some (v102).2), .int (17:Int32), cv Φ v103]) rfl ?_
  obtain ⟨v106, hv106, h⟩ := ob h
  refine c_astq X hP hS hv106 ⟨Nat.le_of_ble_eq_true rfl, by decide⟩ rfl dX11_init_146 (fun H locs hP hS => ?_)
  refine c_iinc (v := (18:Int32)) hx hb dX11_init_147 hl (k := 0) rfl (by decide) (Nat.le_of_ble_eq_true rfl) (lvKa rfl (lvKr (lvKa rfl (lvKa rfl (lvKa rfl lvK0))))) rfl (fun ls (hl : lv_has ls 5 [(4, .int (18:Int32)), (3, cv Φ (some (v13).2)), (2, cv Φ (some (v11).2)), (1, cv Φ (some (v9).2)), (0, cv Φ (some x0))]) => ?_)
  refine lv_goto (tgt := 126) hx hb dX11_init_150 rfl ?_
  refine lv_iload hx hb dX11_init_126 (lv_at hl 0 rfl) ?_
  refine lv_bipush (v := (30:Int32)) hx hb dX11_init_128 (by decide) ?_
  refine lv_icmp_ge (tgt := 153) hx hb dX11_init_130 rfl (fun hc => absurd hc (by decide)) (fun hc => ?_)
  refine c_aload_n hx hb dX11_init_133 rfl (lv_at hl 4 rfl) ?_
  obtain ⟨v107, hv107, h⟩ := ob h
  refine c_gR X hP hv107 (Nat.le_of_ble_eq_true rfl) (Nat.le_of_ble_eq_true rfl) rfl w_578 dX11_init_134 ?_
  refine lv_iload hx hb dX11_init_137 (lv_at hl 0 rfl) ?_
  refine c_new X hP hS (ci := 9) ⟨Nat.le_of_ble_eq_true rfl, by decide⟩ ⟨w_86, w_88, w_57⟩ (Nat.le_of_ble_eq_true rfl) (Nat.le_of_ble_eq_true rfl) dX11_init_139 (fun H hP hS => ?_)
  refine c_dupq hx hb dX11_init_142 ?_
  obtain ⟨v108, hv108, h⟩ := ob h
  obtain ⟨v109, hv109, h⟩ := ob h
  refine c_cw (c_runIN X (K_X9_init l D Φ (nw v106 9) v108  hv109) hv108 (Nat.le_of_ble_eq_true rfl) ⟨cn_0, ww_X9_init⟩ rfl rfl hy_X9_init rfl ⟨(Nat.le_of_ble_eq_true rfl), (Nat.le_of_ble_eq_true rfl)⟩ hP hS hl.1 (Nat.le_of_ble_eq_true rfl) dX11_init_143 rfl ⟨(Nat.le_of_ble_eq_true rfl), (Nat.le_of_ble_eq_true rfl)⟩) hS (fun H locs hP hS => ?_)
  refine W.eq (g2 := F0 m 146 ls [cv Φ (some (v106).2), .int (18:Int32), cv Φ v107]) rfl ?_
  obtain ⟨v110, hv110, h⟩ := ob h
  refine c_astq X hP hS hv110 ⟨Nat.le_of_ble_eq_true rfl, by decide⟩ rfl dX11_init_146 (fun H locs hP hS => ?_)
  refine c_iinc (v := (19:Int32)) hx hb dX11_init_147 hl (k := 0) rfl (by decide) (Nat.le_of_ble_eq_true rfl) (lvKa rfl (lvKr (lvKa rfl (lvKa rfl (lvKa rfl lvK0))))) rfl (fun ls (hl : lv_has ls 5 [(4, .int (19:Int32)), (3, cv Φ (some (v13).2)), (2, cv Φ (some (v11).2)), (1, cv Φ (some (v9).2)), (0, cv Φ (some x0))]) => ?_)
  refine lv_goto (tgt := 126) hx hb dX11_init_150 rfl ?_
  refine lv_iload hx hb dX11_init_126 (lv_at hl 0 rfl) ?_
  refine lv_bipush (v := (30:Int32)) hx hb dX11_init_128 (by decide) ?_
  refine lv_icmp_ge (tgt := 153) hx hb dX11_init_130 rfl (fun hc => absurd hc (by decide)) (fun hc => ?_)
  refine c_aload_n hx hb dX11_init_133 rfl (lv_at hl 4 rfl) ?_
  obtain ⟨v111, hv111, h⟩ := ob h
  refine c_gR X hP hv111 (Nat.le_of_ble_eq_true rfl) (Nat.le_of_ble_eq_true rfl) rfl w_578 dX11_init_134 ?_
  refine lv_iload hx hb dX11_init_137 (lv_at hl 0 rfl) ?_
  refine c_new X hP hS (ci := 9) ⟨Nat.le_of_ble_eq_true rfl, by decide⟩ ⟨w_86, w_88, w_57⟩ (Nat.le_of_ble_eq_true rfl) (Nat.le_of_ble_eq_true rfl) dX11_init_139 (fun H hP hS => ?_)
  refine c_dupq hx hb dX11_init_142 ?_
  obtain ⟨v112, hv112, h⟩ := ob h
  obtain ⟨v113, hv113, h⟩ := ob h
  refine c_cw (c_runIN X (K_X9_init l D Φ (nw v110 9) v112  hv113) hv112 (Nat.le_of_ble_eq_true rfl) ⟨cn_0, ww_X9_init⟩ rfl rfl hy_X9_init rfl ⟨(Nat.le_of_ble_eq_true rfl), (Nat.le_of_ble_eq_true rfl)⟩ hP hS hl.1 (Nat.le_of_ble_eq_true rfl) dX11_init_143 rfl ⟨(Nat.le_of_ble_eq_true rfl), (Nat.le_of_ble_eq_true rfl)⟩) hS (fun H locs hP hS => ?_)
  refine W.eq (g2 := F0 m 146 ls [cv Φ (some (v110).2), .int (19:Int32), cv Φ v111]) rfl ?_
  obtain ⟨v114, hv114, h⟩ := ob h
  refine c_astq X hP hS hv114 ⟨Nat.le_of_ble_eq_true rfl, by decide⟩ rfl dX11_init_146 (fun H locs hP hS => ?_)
  refine c_iinc (v := (20:Int32)) hx hb dX11_init_147 hl (k := 0) rfl (by decide) (Nat.le_of_ble_eq_true rfl) (lvKa rfl (lvKr (lvKa rfl (lvKa rfl (lvKa rfl lvK0))))) rfl (fun ls (hl : lv_has ls 5 [(4, .int (20:Int32)), (3, cv Φ (some (v13).2)), (2, cv Φ (some (v11).2)), (1, cv Φ (some (v9).2)), (0, cv Φ (some x0))]) => ?_)
  refine lv_goto (tgt := 126) hx hb dX11_init_150 rfl ?_
  refine lv_iload hx hb dX11_init_126 (lv_at hl 0 rfl) ?_
  refine lv_bipush (v := (30:Int32)) hx hb dX11_init_128 (by decide) ?_
  refine lv_icmp_ge (tgt := 153) hx hb dX11_init_130 rfl (fun hc => absurd hc (by decide)) (fun hc => ?_)
  refine c_aload_n hx hb dX11_init_133 rfl (lv_at hl 4 rfl) ?_
  obtain ⟨v115, hv115, h⟩ := ob h
  refine c_gR X hP hv115 (Nat.le_of_ble_eq_true rfl) (Nat.le_of_ble_eq_true rfl) rfl w_578 dX11_init_134 ?_
  refine lv_iload hx hb dX11_init_137 (lv_at hl 0 rfl) ?_
  refine c_new X hP hS (ci := 9) ⟨Nat.le_of_ble_eq_true rfl, by decide⟩ ⟨w_86, w_88, w_57⟩ (Nat.le_of_ble_eq_true rfl) (Nat.le_of_ble_eq_true rfl) dX11_init_139 (fun H hP hS => ?_)
  refine c_dupq hx hb dX11_init_142 ?_
  obtain ⟨v116, hv116, h⟩ := ob h
  obtain ⟨v117, hv117, h⟩ := ob h
  refine c_cw (c_runIN X (K_X9_init l D Φ (nw v114 9) v116  hv117) hv116 (Nat.le_of_ble_eq_true rfl) ⟨cn_0, ww_X9_init⟩ rfl rfl hy_X9_init rfl ⟨(Nat.le_of_ble_eq_true rfl), (Nat.le_of_ble_eq_true rfl)⟩ hP hS hl.1 (Nat.le_of_ble_eq_true rfl) dX11_init_143 rfl ⟨(Nat.le_of_ble_eq_true rfl), (Nat.le_of_ble_eq_true rfl)⟩) hS (fun H locs hP hS => ?_)
  refine W.eq (g2 := F0 m 146 ls [cv Φ (some (v114).2), .int (20:Int32), cv Φ v115]) rfl ?_
  obtain ⟨v118, hv118, h⟩ := ob h
  refine c_astq X hP hS hv118 ⟨Nat.le_of_ble_eq_true rfl, by decide⟩ rfl dX11_init_146 (fun H locs hP hS => ?_)
  refine c_iinc (v := (21:Int32)) hx hb dX11_init_147 hl (k := 0) rfl (by decide) (Nat.le_of_ble_eq_true rfl) (lvKa rfl (lvKr (lvKa rfl (lvKa rfl (lvKa rfl lvK0))))) rfl (fun ls (hl : lv_has ls 5 [(4, .int (21:Int32)), (3, cv Φ (some (v13).2)), (2, cv Φ (some (v11).2)), (1, cv Φ (some (v9).2)), (0, cv Φ (some x0))]) => ?_)
  refine lv_goto (tgt := 126) hx hb dX11_init_150 rfl ?_
  refine lv_iload hx hb dX11_init_126 (lv_at hl 0 rfl) ?_
  refine lv_bipush (v := (30:Int32)) hx hb dX11_init_128 (by decide) ?_
  refine lv_icmp_ge (tgt := 153) hx hb dX11_init_130 rfl (fun hc => absurd hc (by decide)) (fun hc => ?_)
  refine c_aload_n hx hb dX11_init_133 rfl (lv_at hl 4 rfl) ?_
  obtain ⟨v119, hv119, h⟩ := ob h
  refine c_gR X hP hv119 (Nat.le_of_ble_eq_true rfl) (Nat.le_of_ble_eq_true rfl) rfl w_578 dX11_init_134 ?_
  refine lv_iload hx hb dX11_init_137 (lv_at hl 0 rfl) ?_
  refine c_new X hP hS (ci := 9) ⟨Nat.le_of_ble_eq_true rfl, by decide⟩ ⟨w_86, w_88, w_57⟩ (Nat.le_of_ble_eq_true rfl) (Nat.le_of_ble_eq_true rfl) dX11_init_139 (fun H hP hS => ?_)
  refine c_dupq hx hb dX11_init_142 ?_
  obtain ⟨v120, hv120, h⟩ := ob h
  obtain ⟨v121, hv121, h⟩ := ob h
  refine c_cw (c_runIN X (K_X9_init l D Φ (nw v118 9) v120  hv121) hv120 (Nat.le_of_ble_eq_true rfl) ⟨cn_0, ww_X9_init⟩ rfl rfl hy_X9_init rfl ⟨(Nat.le_of_ble_eq_true rfl), (Nat.le_of_ble_eq_true rfl)⟩ hP hS hl.1 (Nat.le_of_ble_eq_true rfl) dX11_init_143 rfl ⟨(Nat.le_of_ble_eq_true rfl), (Nat.le_of_ble_eq_true rfl)⟩) hS (fun H locs hP hS => ?_)
  refine W.eq (g2 := F0 m 146 ls [cv Φ (some (v118).2), .int (21:Int32), cv Φ v119]) rfl ?_
  obtain ⟨v122, hv122, h⟩ := ob h
  refine c_astq X hP hS hv122 ⟨Nat.le_of_ble_eq_true rfl, by decide⟩ rfl dX11_init_146 (fun H locs hP hS => ?_)
  refine c_iinc (v := (22:Int32)) hx hb dX11_init_147 hl (k := 0) rfl (by decide) (Nat.le_of_ble_eq_true rfl) (lvKa rfl (lvKr (lvKa rfl (lvKa rfl (lvKa rfl lvK0))))) rfl (fun ls (hl : lv_has ls 5 [(4, .int (22:Int32)), (3, cv Φ (some (v13).2)), (2, cv Φ (some (v11).2)), (1, cv Φ (some (v9).2)), (0, cv Φ (some x0))]) => ?_)
  refine lv_goto (tgt := 126) hx hb dX11_init_150 rfl ?_
  refine lv_iload hx hb dX11_init_126 (lv_at hl 0 rfl) ?_
  refine lv_bipush (v := (30:Int32)) hx hb dX11_init_128 (by decide) ?_
  refine lv_icmp_ge (tgt := 153) hx hb dX11_init_130 rfl (fun hc => absurd hc (by decide)) (fun hc => ?_)
  refine c_aload_n hx hb dX11_init_133 rfl (lv_at hl 4 rfl) ?_
  obtain ⟨v123, hv123, h⟩ := ob h
  refine c_gR X hP hv123 (Nat.le_of_ble_eq_true rfl) (Nat.le_of_ble_eq_true rfl) rfl w_578 dX11_init_134 ?_
  refine lv_iload hx hb dX11_init_137 (lv_at hl 0 rfl) ?_
  refine c_new X hP hS (ci := 9) ⟨Nat.le_of_ble_eq_true rfl, by decide⟩ ⟨w_86, w_88, w_57⟩ (Nat.le_of_ble_eq_true rfl) (Nat.le_of_ble_eq_true rfl) dX11_init_139 (fun H hP hS => ?_)
  refine c_dupq hx hb dX11_init_142 ?_
  obtain ⟨v124, hv124, h⟩ := ob h
  obtain ⟨v125, hv125, h⟩ := ob h
  refine c_cw (c_runIN X (K_X9_init l D Φ (nw v122 9) v124  hv125) hv124 (Nat.le_of_ble_eq_true rfl) ⟨cn_0, ww_X9_init⟩ rfl rfl hy_X9_init rfl ⟨(Nat.le_of_ble_eq_true rfl), (Nat.le_of_ble_eq_true rfl)⟩ hP hS hl.1 (Nat.le_of_ble_eq_true rfl) dX11_init_143 rfl ⟨(Nat.le_of_ble_eq_true rfl), (Nat.le_of_ble_eq_true rfl)⟩) hS (fun H locs hP hS => ?_)
  refine W.eq (g2 := F0 m 146 ls [cv Φ (some (v122).2), .int (22:Int32), cv Φ v123]) rfl ?_
  obtain ⟨v126, hv126, h⟩ := ob h
  refine c_astq X hP hS hv126 ⟨Nat.le_of_ble_eq_true rfl, by decide⟩ rfl dX11_init_146 (fun H locs hP hS => ?_)
  refine c_iinc (v := (23:Int32)) hx hb dX11_init_147 hl (k := 0) rfl (by decide) (Nat.le_of_ble_eq_true rfl) (lvKa rfl (lvKr (lvKa rfl (lvKa rfl (lvKa rfl lvK0))))) rfl (fun ls (hl : lv_has ls 5 [(4, .int (23:Int32)), (3, cv Φ (some (v13).2)), (2, cv Φ (some (v11).2)), (1, cv Φ (some (v9).2)), (0, cv Φ (some x0))]) => ?_)
  refine lv_goto (tgt := 126) hx hb dX11_init_150 rfl ?_
  refine lv_iload hx hb dX11_init_126 (lv_at hl 0 rfl) ?_
  refine lv_bipush (v := (30:Int32)) hx hb dX11_init_128 (by decide) ?_
  refine lv_icmp_ge (tgt := 153) hx hb dX11_init_130 rfl (fun hc => absurd hc (by decide)) (fun hc => ?_)
  refine c_aload_n hx hb dX11_init_133 rfl (lv_at hl 4 rfl) ?_
  obtain ⟨v127, hv127, h⟩ := ob h
  refine c_gR X hP hv127 (Nat.le_of_ble_eq_true rfl) (Nat.le_of_ble_eq_true rfl) rfl w_578 dX11_init_134 ?_
  refine lv_iload hx hb dX11_init_137 (lv_at hl 0 rfl) ?_
  refine c_new X hP hS (ci := 9) ⟨Nat.le_of_ble_eq_true rfl, by decide⟩ ⟨w_86, w_88, w_57⟩ (Nat.le_of_ble_eq_true rfl) (Nat.le_of_ble_eq_true rfl) dX11_init_139 (fun H hP hS => ?_)
  refine c_dupq hx hb dX11_init_142 ?_
  obtain ⟨v128, hv128, h⟩ := ob h
  obtain ⟨v129, hv129, h⟩ := ob h
  refine c_cw (c_runIN X (K_X9_init l D Φ (nw v126 9) v128  hv129) hv128 (Nat.le_of_ble_eq_true rfl) ⟨cn_0, ww_X9_init⟩ rfl rfl hy_X9_init rfl ⟨(Nat.le_of_ble_eq_true rfl), (Nat.le_of_ble_eq_true rfl)⟩ hP hS hl.1 (Nat.le_of_ble_eq_true rfl) dX11_init_143 rfl ⟨(Nat.le_of_ble_eq_true rfl), (Nat.le_of_ble_eq_true rfl)⟩) hS (fun H locs hP hS => ?_)
  refine W.eq (g2 := F0 m 146 ls [cv Φ (some (v126).2), .int (23:Int32), cv Φ v127]) rfl ?_
  obtain ⟨v130, hv130, h⟩ := ob h
  refine c_astq X hP hS hv130 ⟨Nat.le_of_ble_eq_true rfl, by decide⟩ rfl dX11_init_146 (fun H locs hP hS => ?_)
  refine c_iinc (v := (24:Int32)) hx hb dX11_init_147 hl (k := 0) rfl (by decide) (Nat.le_of_ble_eq_true rfl) (lvKa rfl (lvKr (lvKa rfl (lvKa rfl (lvKa rfl lvK0))))) rfl (fun ls (hl : lv_has ls 5 [(4, .int (24:Int32)), (3, cv Φ (some (v13).2)), (2, cv Φ (some (v11).2)), (1, cv Φ (some (v9).2)), (0, cv Φ (some x0))]) => ?_)
  refine lv_goto (tgt := 126) hx hb dX11_init_150 rfl ?_
  refine lv_iload hx hb dX11_init_126 (lv_at hl 0 rfl) ?_
  refine lv_bipush (v := (30:Int32)) hx hb dX11_init_128 (by decide) ?_
  refine lv_icmp_ge (tgt := 153) hx hb dX11_init_130 rfl (fun hc => absurd hc (by decide)) (fun hc => ?_)
  refine c_aload_n hx hb dX11_init_133 rfl (lv_at hl 4 rfl) ?_
  obtain ⟨v131, hv131, h⟩ := ob h
  refine c_gR X hP hv131 (Nat.le_of_ble_eq_true rfl) (Nat.le_of_ble_eq_true rfl) rfl w_578 dX11_init_134 ?_
  refine lv_iload hx hb dX11_init_137 (lv_at hl 0 rfl) ?_
  refine c_new X hP hS (ci := 9) ⟨Nat.le_of_ble_eq_true rfl, by decide⟩ ⟨w_86, w_88, w_57⟩ (Nat.le_of_ble_eq_true rfl) (Nat.le_of_ble_eq_true rfl) dX11_init_139 (fun H hP hS => ?_)
  refine c_dupq hx hb dX11_init_142 ?_
  obtain ⟨v132, hv132, h⟩ := ob h
  obtain ⟨v133, hv133, h⟩ := ob h
  refine c_cw (c_runIN X (K_X9_init l D Φ (nw v130 9) v132  hv133) hv132 (Nat.le_of_ble_eq_true rfl) ⟨cn_0, ww_X9_init⟩ rfl rfl hy_X9_init rfl ⟨(Nat.le_of_ble_eq_true rfl), (Nat.le_of_ble_eq_true rfl)⟩ hP hS hl.1 (Nat.le_of_ble_eq_true rfl) dX11_init_143 rfl ⟨(Nat.le_of_ble_eq_true rfl), (Nat.le_of_ble_eq_true rfl)⟩) hS (fun H locs hP hS => ?_)
  refine W.eq (g2 := F0 m 146 ls [cv Φ (some (v130).2), .int (24:Int32), cv Φ v131]) rfl ?_
  obtain ⟨v134, hv134, h⟩ := ob h
  refine c_astq X hP hS hv134 ⟨Nat.le_of_ble_eq_true rfl, by decide⟩ rfl dX11_init_146 (fun H locs hP hS => ?_)
  refine c_iinc (v := (25:Int32)) hx hb dX11_init_147 hl (k := 0) rfl (by decide) (Nat.le_of_ble_eq_true rfl) (lvKa rfl (lvKr (lvKa rfl (lvKa rfl (lvKa rfl lvK0))))) rfl (fun ls (hl : lv_has ls 5 [(4, .int (25:Int32)), (3, cv Φ (some (v13).2)), (2, cv Φ (some (v11).2)), (1, cv Φ (some (v9).2)), (0, cv Φ (some x0))]) => ?_)
  refine lv_goto (tgt := 126) hx hb dX11_init_150 rfl ?_
  refine lv_iload hx hb dX11_init_126 (lv_at hl 0 rfl) ?_
  refine lv_bipush (v := (30:Int32)) hx hb dX11_init_128 (by decide) ?_
  refine lv_icmp_ge (tgt := 153) hx hb dX11_init_130 rfl (fun hc => absurd hc (by decide)) (fun hc => ?_)
  refine c_aload_n hx hb dX11_init_133 rfl (lv_at hl 4 rfl) ?_
  obtain ⟨v135, hv135, h⟩ := ob h
  refine c_gR X hP hv135 (Nat.le_of_ble_eq_true rfl) (Nat.le_of_ble_eq_true rfl) rfl w_578 dX11_init_134 ?_
  refine lv_iload hx hb dX11_init_137 (lv_at hl 0 rfl) ?_
  refine c_new X hP hS (ci := 9) ⟨Nat.le_of_ble_eq_true rfl, by decide⟩ ⟨w_86, w_88, w_57⟩ (Nat.le_of_ble_eq_true rfl) (Nat.le_of_ble_eq_true rfl) dX11_init_139 (fun H hP hS => ?_)
  refine c_dupq hx hb dX11_init_142 ?_
  obtain ⟨v136, hv136, h⟩ := ob h
  obtain ⟨v137, hv137, h⟩ := ob h
  refine c_cw (c_runIN X (K_X9_init l D Φ (nw v134 9) v136  hv137) hv136 (Nat.le_of_ble_eq_true rfl) ⟨cn_0, ww_X9_init⟩ rfl rfl hy_X9_init rfl ⟨(Nat.le_of_ble_eq_true rfl), (Nat.le_of_ble_eq_true rfl)⟩ hP hS hl.1 (Nat.le_of_ble_eq_true rfl) dX11_init_143 rfl ⟨(Nat.le_of_ble_eq_true rfl), (Nat.le_of_ble_eq_true rfl)⟩) hS (fun H locs hP hS => ?_)
  refine W.eq (g2 := F0 m 146 ls [cv Φ (some (v134).2), .int (25:Int32), cv Φ v135]) rfl ?_
  obtain ⟨v138, hv138, h⟩ := ob h
  refine c_astq X hP hS hv138 ⟨Nat.le_of_ble_eq_true rfl, by decide⟩ rfl dX11_init_146 (fun H locs hP hS => ?_)
  refine c_iinc (v := (26:Int32)) hx hb dX11_init_147 hl (k := 0) rfl (by decide) (Nat.le_of_ble_eq_true rfl) (lvKa rfl (lvKr (lvKa rfl (lvKa rfl (lvKa rfl lvK0))))) rfl (fun ls (hl : lv_has ls 5 [(4, .int (26:Int32)), (3, cv Φ (some (v13).2)), (2, cv Φ (some (v11).2)), (1, cv Φ (some (v9).2)), (0, cv Φ (some x0))]) => ?_)
  refine lv_goto (tgt := 126) hx hb dX11_init_150 rfl ?_
  refine lv_iload hx hb dX11_init_126 (lv_at hl 0 rfl) ?_
  refine lv_bipush (v := (30:Int32)) hx hb dX11_init_128 (by decide) ?_
  refine lv_icmp_ge (tgt := 153) hx hb dX11_init_130 rfl (fun hc => absurd hc (by decide)) (fun hc => ?_)
  refine c_aload_n hx hb dX11_init_133 rfl (lv_at hl 4 rfl) ?_
  obtain ⟨v139, hv139, h⟩ := ob h
  refine c_gR X hP hv139 (Nat.le_of_ble_eq_true rfl) (Nat.le_of_ble_eq_true rfl) rfl w_578 dX11_init_134 ?_
  refine lv_iload hx hb dX11_init_137 (lv_at hl 0 rfl) ?_
  refine c_new X hP hS (ci := 9) ⟨Nat.le_of_ble_eq_true rfl, by decide⟩ ⟨w_86, w_88, w_57⟩ (Nat.le_of_ble_eq_true rfl) (Nat.le_of_ble_eq_true rfl) dX11_init_139 (fun H hP hS => ?_)
  refine c_dupq hx hb dX11_init_142 ?_
  obtain ⟨v140, hv140, h⟩ := ob h
  obtain ⟨v141, hv141, h⟩ := ob h
  refine c_cw (c_runIN X (K_X9_init l D Φ (nw v138 9) v140  hv141) hv140 (Nat.le_of_ble_eq_true rfl) ⟨cn_0, ww_X9_init⟩ rfl rfl hy_X9_init rfl ⟨(Nat.le_of_ble_eq_true rfl), (Nat.le_of_ble_eq_true rfl)⟩ hP hS hl.1 (Nat.le_of_ble_eq_true rfl) dX11_init_143 rfl ⟨(Nat.le_of_ble_eq_true rfl), (Nat.le_of_ble_eq_true rfl)⟩) hS (fun H locs hP hS => ?_)
  refine W.eq (g2 := F0 m 146 ls [cv Φ (some (v138).2), .int (26:Int32), cv Φ v139]) rfl ?_
  obtain ⟨v142, hv142, h⟩ := ob h
  refine c_astq X hP hS hv142 ⟨Nat.le_of_ble_eq_true rfl, by decide⟩ rfl dX11_init_146 (fun H locs hP hS => ?_)
  refine c_iinc (v := (27:Int32)) hx hb dX11_init_147 hl (k := 0) rfl (by decide) (Nat.le_of_ble_eq_true rfl) (lvKa rfl (lvKr (lvKa rfl (lvKa rfl (lvKa rfl lvK0))))) rfl (fun ls (hl : lv_has ls 5 [(4, .int (27:Int32)), (3, cv Φ (some (v13).2)), (2, cv Φ (some (v11).2)), (1, cv Φ (some (v9).2)), (0, cv Φ (some x0))]) => ?_)
  refine lv_goto (tgt := 126) hx hb dX11_init_150 rfl ?_
  refine lv_iload hx hb dX11_init_126 (lv_at hl 0 rfl) ?_
  refine lv_bipush (v := (30:Int32)) hx hb dX11_init_128 (by decide) ?_
  refine lv_icmp_ge (tgt := 153) hx hb dX11_init_130 rfl (fun hc => absurd hc (by decide)) (fun hc => ?_)
  refine c_aload_n hx hb dX11_init_133 rfl (lv_at hl 4 rfl) ?_
  obtain ⟨v143, hv143, h⟩ := ob h
  refine c_gR X hP hv143 (Nat.le_of_ble_eq_true rfl) (Nat.le_of_ble_eq_true rfl) rfl w_578 dX11_init_134 ?_
  refine lv_iload hx hb dX11_init_137 (lv_at hl 0 rfl) ?_
  refine c_new X hP hS (ci := 9) ⟨Nat.le_of_ble_eq_true rfl, by decide⟩ ⟨w_86, w_88, w_57⟩ (Nat.le_of_ble_eq_true rfl) (Nat.le_of_ble_eq_true rfl) dX11_init_139 (fun H hP hS => ?_)
  refine c_dupq hx hb dX11_init_142 ?_
  obtain ⟨v144, hv144, h⟩ := ob h
  obtain ⟨v145, hv145, h⟩ := ob h
  refine c_cw (c_runIN X (K_X9_init l D Φ (nw v142 9) v144  hv145) hv144 (Nat.le_of_ble_eq_true rfl) ⟨cn_0, ww_X9_init⟩ rfl rfl hy_X9_init rfl ⟨(Nat.le_of_ble_eq_true rfl), (Nat.le_of_ble_eq_true rfl)⟩ hP hS hl.1 (Nat.le_of_ble_eq_true rfl) dX11_init_143 rfl ⟨(Nat.le_of_ble_eq_true rfl), (Nat.le_of_ble_eq_true rfl)⟩) hS (fun H locs hP hS => ?_)
  refine W.eq (g2 := F0 m 146 ls [cv Φ (some (v142).2), .int (27:Int32), cv Φ v143]) rfl ?_
  obtain ⟨v146, hv146, h⟩ := ob h
  refine c_astq X hP hS hv146 ⟨Nat.le_of_ble_eq_true rfl, by decide⟩ rfl dX11_init_146 (fun H locs hP hS => ?_)
  refine c_iinc (v := (28:Int32)) hx hb dX11_init_147 hl (k := 0) rfl (by decide) (Nat.le_of_ble_eq_true rfl) (lvKa rfl (lvKr (lvKa rfl (lvKa rfl (lvKa rfl lvK0))))) rfl (fun ls (hl : lv_has ls 5 [(4, .int (28:Int32)), (3, cv Φ (some (v13).2)), (2, cv Φ (some (v11).2)), (1, cv Φ (some (v9).2)), (0, cv Φ (some x0))]) => ?_)
  refine lv_goto (tgt := 126) hx hb dX11_init_150 rfl ?_
  refine lv_iload hx hb dX11_init_126 (lv_at hl 0 rfl) ?_
  refine lv_bipush (v := (30:Int32)) hx hb dX11_init_128 (by decide) ?_
  refine lv_icmp_ge (tgt := 153) hx hb dX11_init_130 rfl (fun hc => absurd hc (by decide)) (fun hc => ?_)
  refine c_aload_n hx hb dX11_init_133 rfl (lv_at hl 4 rfl) ?_
  obtain ⟨v147, hv147, h⟩ := ob h
  refine c_gR X hP hv147 (Nat.le_of_ble_eq_true rfl) (Nat.le_of_ble_eq_true rfl) rfl w_578 dX11_init_134 ?_
  refine lv_iload hx hb dX11_init_137 (lv_at hl 0 rfl) ?_
  refine c_new X hP hS (ci := 9) ⟨Nat.le_of_ble_eq_true rfl, by decide⟩ ⟨w_86, w_88, w_57⟩ (Nat.le_of_ble_eq_true rfl) (Nat.le_of_ble_eq_true rfl) dX11_init_139 (fun H hP hS => ?_)
  refine c_dupq hx hb dX11_init_142 ?_
  obtain ⟨v148, hv148, h⟩ := ob h
  obtain ⟨v149, hv149, h⟩ := ob h
  refine c_cw (c_runIN X (K_X9_init l D Φ (nw v146 9) v148  hv149) hv148 (Nat.le_of_ble_eq_true rfl) ⟨cn_0, ww_X9_init⟩ rfl rfl hy_X9_init rfl ⟨(Nat.le_of_ble_eq_true rfl), (Nat.le_of_ble_eq_true rfl)⟩ hP hS hl.1 (Nat.le_of_ble_eq_true rfl) dX11_init_143 rfl ⟨(Nat.le_of_ble_eq_true rfl), (Nat.le_of_ble_eq_true rfl)⟩) hS (fun H locs hP hS => ?_)
  refine W.eq (g2 := F0 m 146 ls [cv Φ (some (v146).2), .int (28:Int32), cv Φ v147]) rfl ?_
  obtain ⟨v150, hv150, h⟩ := ob h
  refine c_astq X hP hS hv150 ⟨Nat.le_of_ble_eq_true rfl, by decide⟩ rfl dX11_init_146 (fun H locs hP hS => ?_)
  refine c_iinc (v := (29:Int32)) hx hb dX11_init_147 hl (k := 0) rfl (by decide) (Nat.le_of_ble_eq_true rfl) (lvKa rfl (lvKr (lvKa rfl (lvKa rfl (lvKa rfl lvK0))))) rfl (fun ls (hl : lv_has ls 5 [(4, .int (29:Int32)), (3, cv Φ (some (v13).2)), (2, cv Φ (some (v11).2)), (1, cv Φ (some (v9).2)), (0, cv Φ (some x0))]) => ?_)
  refine lv_goto (tgt := 126) hx hb dX11_init_150 rfl ?_
  refine lv_iload hx hb dX11_init_126 (lv_at hl 0 rfl) ?_
  refine lv_bipush (v := (30:Int32)) hx hb dX11_init_128 (by decide) ?_
  refine lv_icmp_ge (tgt := 153) hx hb dX11_init_130 rfl (fun hc => absurd hc (by decide)) (fun hc => ?_)
  refine c_aload_n hx hb dX11_init_133 rfl (lv_at hl 4 rfl) ?_
  obtain ⟨v151, hv151, h⟩ := ob h
  refine c_gR X hP hv151 (Nat.le_of_ble_eq_true rfl) (Nat.le_of_ble_eq_true rfl) rfl w_578 dX11_init_134 ?_
  refine lv_iload hx hb dX11_init_137 (lv_at hl 0 rfl) ?_
  refine c_new X hP hS (ci := 9) ⟨Nat.le_of_ble_eq_true rfl, by decide⟩ ⟨w_86, w_88, w_57⟩ (Nat.le_of_ble_eq_true rfl) (Nat.le_of_ble_eq_true rfl) dX11_init_139 (fun H hP hS => ?_)
  refine c_dupq hx hb dX11_init_142 ?_
  obtain ⟨v152, hv152, h⟩ := ob h
  obtain ⟨v153, hv153, h⟩ := ob h
  refine c_cw (c_runIN X (K_X9_init l D Φ (nw v150 9) v152  hv153) hv152 (Nat.le_of_ble_eq_true rfl) ⟨cn_0, ww_X9_init⟩ rfl rfl hy_X9_init rfl ⟨(Nat.le_of_ble_eq_true rfl), (Nat.le_of_ble_eq_true rfl)⟩ hP hS hl.1 (Nat.le_of_ble_eq_true rfl) dX11_init_143 rfl ⟨(Nat.le_of_ble_eq_true rfl), (Nat.le_of_ble_eq_true rfl)⟩) hS (fun H locs hP hS => ?_)
  refine W.eq (g2 := F0 m 146 ls [cv Φ (some (v150).2), .int (29:Int32), cv Φ v151]) rfl ?_
  obtain ⟨v154, hv154, h⟩ := ob h
  refine c_astq X hP hS hv154 ⟨Nat.le_of_ble_eq_true rfl, by decide⟩ rfl dX11_init_146 (fun H locs hP hS => ?_)
  refine c_iinc (v := (30:Int32)) hx hb dX11_init_147 hl (k := 0) rfl (by decide) (Nat.le_of_ble_eq_true rfl) (lvKa rfl (lvKr (lvKa rfl (lvKa rfl (lvKa rfl lvK0))))) rfl (fun ls (hl : lv_has ls 5 [(4, .int (30:Int32)), (3, cv Φ (some (v13).2)), (2, cv Φ (some (v11).2)), (1, cv Φ (some (v9).2)), (0, cv Φ (some x0))]) => ?_)
  refine lv_goto (tgt := 126) hx hb dX11_init_150 rfl ?_
  refine lv_iload hx hb dX11_init_126 (lv_at hl 0 rfl) ?_
  refine lv_bipush (v := (30:Int32)) hx hb dX11_init_128 (by decide) ?_
  refine lv_icmp_ge (tgt := 153) hx hb dX11_init_130 rfl (fun hc => ?_) (fun hc => absurd (by decide) hc)
  obtain rfl := sj h
  exact c_wv X hP hS (Nat.le_of_ble_eq_true rfl) (Nat.le_of_ble_eq_true rfl) dX11_init_153
theorem ww_X11_init : Cond.instanceMethod yX11_init ∈ BG ∧ Cond.initialized (yX11_init).cls ∈ BG ∧ Cond.code yX11_init cX11_init 5 none ∈ BG := ⟨w_77, w_56, w_78⟩
theorem hy_X11_init : (yX11_init).cls ≠ "java/lang/invoke/MethodHandle" ∧ (yX11_init).cls ≠ "java/lang/invoke/VarHandle" ∧ (parseMethodDescriptor (yX11_init).desc).map (fun d => d.parameters.length) = some 0 := ⟨by decide, by decide, by decide +kernel⟩
