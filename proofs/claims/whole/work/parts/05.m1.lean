
theorem ip {c : Prop} {i : Decidable c} {α : Sort _} {a b r : α} (hc : c) (h : (@ite α c i a b) = r) : a = r := (if_pos hc).symm.trans h
theorem ine {c : Prop} {i : Decidable c} {α : Sort _} {a b r : α} (hc : ¬ c) (h : (@ite α c i a b) = r) : b = r := (if_neg hc).symm.trans h
theorem hyX {y : MethodName} {n : Nat} (h : y.cls = RX12) (hd : (parseMethodDescriptor y.desc).map (fun d => d.parameters.length) = some n) : y.cls = RX12 ∧ y.cls ≠ "java/lang/invoke/MethodHandle" ∧ y.cls ≠ "java/lang/invoke/VarHandle" ∧ (parseMethodDescriptor y.desc).map (fun d => d.parameters.length) = some n := ⟨h, by rw [h]; decide, by rw [h]; decide, hd⟩
theorem sw_out {x : Int32} {lo hi : Int} (h : ∀ k : Int, lo ≤ k → k ≤ hi → ¬ x = Int32.ofInt k) : x.toInt < lo ∨ hi < x.toInt := by
  by_cases h1 : x.toInt < lo
  · exact Or.inl h1
  · by_cases h2 : hi < x.toInt
    · exact Or.inr h2
    · exact absurd (Int32.ofInt_toInt (x := x)).symm (h x.toInt (by omega) (by omega))

theorem dX12_thrown_0 : decode cX12_thrown 0 = .ok (.aload_n 0, 1) := by decide +kernel
theorem dX12_thrown_1 : decode cX12_thrown 1 = .ok (.getfield 227, 3) := by decide +kernel
theorem dX12_thrown_4 : decode cX12_thrown 4 = .ok (.ireturn, 1) := by decide +kernel
theorem dX12_holds_0 : decode cX12_holds 0 = .ok (.aload_n 0, 1) := by decide +kernel
theorem dX12_holds_1 : decode cX12_holds 1 = .ok (.iload_n 1, 1) := by decide +kernel
theorem dX12_holds_2 : decode cX12_holds 2 = .ok (.putfield 227, 3) := by decide +kernel
theorem dX12_holds_5 : decode cX12_holds 5 = .ok (.iload_n 1, 1) := by decide +kernel
theorem dX12_holds_6 : decode cX12_holds 6 = .ok (.ifCond .le 7, 3) := by decide +kernel
theorem dX12_holds_9 : decode cX12_holds 9 = .ok (.iconst 1, 1) := by decide +kernel
theorem dX12_holds_10 : decode cX12_holds 10 = .ok (.goto 4, 3) := by decide +kernel
theorem dX12_holds_13 : decode cX12_holds 13 = .ok (.iconst 0, 1) := by decide +kernel
theorem dX12_holds_14 : decode cX12_holds 14 = .ok (.ireturn, 1) := by decide +kernel
theorem dX12_in_0 : decode cX12_in 0 = .ok (.iload_n 1, 1) := by decide +kernel
theorem dX12_in_1 : decode cX12_in 1 = .ok (.iload_n 2, 1) := by decide +kernel
theorem dX12_in_2 : decode cX12_in 2 = .ok (.if_icmp .lt 12, 3) := by decide +kernel
theorem dX12_in_5 : decode cX12_in 5 = .ok (.iload_n 1, 1) := by decide +kernel
theorem dX12_in_6 : decode cX12_in 6 = .ok (.iload_n 3, 1) := by decide +kernel
theorem dX12_in_7 : decode cX12_in 7 = .ok (.if_icmp .gt 7, 3) := by decide +kernel
theorem dX12_in_10 : decode cX12_in 10 = .ok (.iconst 1, 1) := by decide +kernel
theorem dX12_in_11 : decode cX12_in 11 = .ok (.goto 4, 3) := by decide +kernel
theorem dX12_in_14 : decode cX12_in 14 = .ok (.iconst 0, 1) := by decide +kernel
theorem dX12_in_15 : decode cX12_in 15 = .ok (.ireturn, 1) := by decide +kernel
theorem dX12_bit_0 : decode cX12_bit 0 = .ok (.iload_n 1, 1) := by decide +kernel
theorem dX12_bit_1 : decode cX12_bit 1 = .ok (.iload_n 2, 1) := by decide +kernel
theorem dX12_bit_2 : decode cX12_bit 2 = .ok (.ishr, 1) := by decide +kernel
theorem dX12_bit_3 : decode cX12_bit 3 = .ok (.iconst 1, 1) := by decide +kernel
theorem dX12_bit_4 : decode cX12_bit 4 = .ok (.iand, 1) := by decide +kernel
theorem dX12_bit_5 : decode cX12_bit 5 = .ok (.iconst 1, 1) := by decide +kernel
theorem dX12_bit_6 : decode cX12_bit 6 = .ok (.if_icmp .ne 7, 3) := by decide +kernel
theorem dX12_bit_9 : decode cX12_bit 9 = .ok (.iconst 1, 1) := by decide +kernel
theorem dX12_bit_10 : decode cX12_bit 10 = .ok (.goto 4, 3) := by decide +kernel
theorem dX12_bit_13 : decode cX12_bit 13 = .ok (.iconst 0, 1) := by decide +kernel
theorem dX12_bit_14 : decode cX12_bit 14 = .ok (.ireturn, 1) := by decide +kernel
theorem dX12_isElement_0 : decode cX12_isElement 0 = .ok (.aload_n 0, 1) := by decide +kernel
theorem dX12_isElement_1 : decode cX12_isElement 1 = .ok (.iload_n 1, 1) := by decide +kernel
theorem dX12_isElement_2 : decode cX12_isElement 2 = .ok (.iconst 0, 1) := by decide +kernel
theorem dX12_isElement_3 : decode cX12_isElement 3 = .ok (.aload_n 0, 1) := by decide +kernel
theorem dX12_isElement_4 : decode cX12_isElement 4 = .ok (.getfield 217, 3) := by decide +kernel
theorem dX12_isElement_7 : decode cX12_isElement 7 = .ok (.iconst 1, 1) := by decide +kernel
theorem dX12_isElement_8 : decode cX12_isElement 8 = .ok (.isub, 1) := by decide +kernel
theorem dX12_isElement_9 : decode cX12_isElement 9 = .ok (.invokevirtual 230, 3) := by decide +kernel
theorem dX12_isElement_12 : decode cX12_isElement 12 = .ok (.ireturn, 1) := by decide +kernel
theorem dX12_isTree_0 : decode cX12_isTree 0 = .ok (.iload_n 1, 1) := by decide +kernel
theorem dX12_isTree_1 : decode cX12_isTree 1 = .ok (.iconst (-1), 1) := by decide +kernel
theorem dX12_isTree_2 : decode cX12_isTree 2 = .ok (.if_icmp .eq 21, 3) := by decide +kernel
theorem dX12_isTree_5 : decode cX12_isTree 5 = .ok (.aload_n 0, 1) := by decide +kernel
theorem dX12_isTree_6 : decode cX12_isTree 6 = .ok (.iload_n 1, 1) := by decide +kernel
theorem dX12_isTree_7 : decode cX12_isTree 7 = .ok (.invokevirtual 234, 3) := by decide +kernel
theorem dX12_isTree_10 : decode cX12_isTree 10 = .ok (.ifCond .eq 17, 3) := by decide +kernel
theorem dX12_isTree_13 : decode cX12_isTree 13 = .ok (.aload_n 0, 1) := by decide +kernel
theorem dX12_isTree_14 : decode cX12_isTree 14 = .ok (.getfield 34, 3) := by decide +kernel
theorem dX12_isTree_17 : decode cX12_isTree 17 = .ok (.iload_n 1, 1) := by decide +kernel
theorem dX12_isTree_18 : decode cX12_isTree 18 = .ok (.iaload, 1) := by decide +kernel
theorem dX12_isTree_19 : decode cX12_isTree 19 = .ok (.iconst 1, 1) := by decide +kernel
theorem dX12_isTree_20 : decode cX12_isTree 20 = .ok (.if_icmp .ne 7, 3) := by decide +kernel
theorem dX12_isTree_23 : decode cX12_isTree 23 = .ok (.iconst 1, 1) := by decide +kernel
theorem dX12_isTree_24 : decode cX12_isTree 24 = .ok (.goto 4, 3) := by decide +kernel
theorem dX12_isTree_27 : decode cX12_isTree 27 = .ok (.iconst 0, 1) := by decide +kernel
theorem dX12_isTree_28 : decode cX12_isTree 28 = .ok (.ireturn, 1) := by decide +kernel
theorem dX12_root_0 : decode cX12_root 0 = .ok (.iload_n 1, 1) := by decide +kernel
theorem dX12_root_1 : decode cX12_root 1 = .ok (.istore_n 2, 1) := by decide +kernel
theorem dX12_root_2 : decode cX12_root 2 = .ok (.aload_n 0, 1) := by decide +kernel
theorem dX12_root_3 : decode cX12_root 3 = .ok (.getfield 28, 3) := by decide +kernel
theorem dX12_root_6 : decode cX12_root 6 = .ok (.iload_n 2, 1) := by decide +kernel
theorem dX12_root_7 : decode cX12_root 7 = .ok (.iaload, 1) := by decide +kernel
theorem dX12_root_8 : decode cX12_root 8 = .ok (.ifCond .lt 13, 3) := by decide +kernel
theorem dX12_root_11 : decode cX12_root 11 = .ok (.aload_n 0, 1) := by decide +kernel
theorem dX12_root_12 : decode cX12_root 12 = .ok (.getfield 28, 3) := by decide +kernel
theorem dX12_root_15 : decode cX12_root 15 = .ok (.iload_n 2, 1) := by decide +kernel
theorem dX12_root_16 : decode cX12_root 16 = .ok (.iaload, 1) := by decide +kernel
theorem dX12_root_17 : decode cX12_root 17 = .ok (.istore_n 2, 1) := by decide +kernel
theorem dX12_root_18 : decode cX12_root 18 = .ok (.goto (-16), 3) := by decide +kernel
theorem dX12_root_21 : decode cX12_root 21 = .ok (.iload_n 2, 1) := by decide +kernel
theorem dX12_root_22 : decode cX12_root 22 = .ok (.ireturn, 1) := by decide +kernel
theorem dX12_treeOf_0 : decode cX12_treeOf 0 = .ok (.aload_n 0, 1) := by decide +kernel
theorem dX12_treeOf_1 : decode cX12_treeOf 1 = .ok (.iload_n 1, 1) := by decide +kernel
theorem dX12_treeOf_2 : decode cX12_treeOf 2 = .ok (.invokevirtual 238, 3) := by decide +kernel
theorem dX12_treeOf_5 : decode cX12_treeOf 5 = .ok (.istore_n 2, 1) := by decide +kernel
theorem dX12_treeOf_6 : decode cX12_treeOf 6 = .ok (.iload_n 2, 1) := by decide +kernel
theorem dX12_treeOf_7 : decode cX12_treeOf 7 = .ok (.ifCond .ne 7, 3) := by decide +kernel
theorem dX12_treeOf_10 : decode cX12_treeOf 10 = .ok (.iconst (-1), 1) := by decide +kernel
theorem dX12_treeOf_11 : decode cX12_treeOf 11 = .ok (.goto 23, 3) := by decide +kernel
theorem dX12_treeOf_14 : decode cX12_treeOf 14 = .ok (.aload_n 0, 1) := by decide +kernel
theorem dX12_treeOf_15 : decode cX12_treeOf 15 = .ok (.getfield 31, 3) := by decide +kernel
theorem dX12_treeOf_18 : decode cX12_treeOf 18 = .ok (.iload_n 2, 1) := by decide +kernel
theorem dX12_treeOf_19 : decode cX12_treeOf 19 = .ok (.iaload, 1) := by decide +kernel
theorem dX12_treeOf_20 : decode cX12_treeOf 20 = .ok (.ifCond .lt 12, 3) := by decide +kernel
theorem dX12_treeOf_23 : decode cX12_treeOf 23 = .ok (.aload_n 0, 1) := by decide +kernel
theorem dX12_treeOf_24 : decode cX12_treeOf 24 = .ok (.getfield 31, 3) := by decide +kernel
theorem dX12_treeOf_27 : decode cX12_treeOf 27 = .ok (.iload_n 2, 1) := by decide +kernel
theorem dX12_treeOf_28 : decode cX12_treeOf 28 = .ok (.iaload, 1) := by decide +kernel
theorem dX12_treeOf_29 : decode cX12_treeOf 29 = .ok (.goto 5, 3) := by decide +kernel
theorem dX12_treeOf_32 : decode cX12_treeOf 32 = .ok (.bipush (-2), 2) := by decide +kernel
theorem dX12_treeOf_34 : decode cX12_treeOf 34 = .ok (.ireturn, 1) := by decide +kernel
theorem dX12_inDoc_0 : decode cX12_inDoc 0 = .ok (.aload_n 0, 1) := by decide +kernel
theorem dX12_inDoc_1 : decode cX12_inDoc 1 = .ok (.iload_n 1, 1) := by decide +kernel
theorem dX12_inDoc_2 : decode cX12_inDoc 2 = .ok (.invokevirtual 242, 3) := by decide +kernel
theorem dX12_inDoc_5 : decode cX12_inDoc 5 = .ok (.istore_n 2, 1) := by decide +kernel
theorem dX12_inDoc_6 : decode cX12_inDoc 6 = .ok (.iload_n 2, 1) := by decide +kernel
theorem dX12_inDoc_7 : decode cX12_inDoc 7 = .ok (.ifCond .lt 12, 3) := by decide +kernel
theorem dX12_inDoc_10 : decode cX12_inDoc 10 = .ok (.aload_n 0, 1) := by decide +kernel
theorem dX12_inDoc_11 : decode cX12_inDoc 11 = .ok (.iload_n 2, 1) := by decide +kernel
theorem dX12_inDoc_12 : decode cX12_inDoc 12 = .ok (.invokevirtual 242, 3) := by decide +kernel
theorem dX12_inDoc_15 : decode cX12_inDoc 15 = .ok (.istore_n 2, 1) := by decide +kernel
theorem dX12_inDoc_16 : decode cX12_inDoc 16 = .ok (.goto (-10), 3) := by decide +kernel
theorem dX12_inDoc_19 : decode cX12_inDoc 19 = .ok (.iload_n 2, 1) := by decide +kernel
theorem dX12_inDoc_20 : decode cX12_inDoc 20 = .ok (.iconst (-1), 1) := by decide +kernel
theorem dX12_inDoc_21 : decode cX12_inDoc 21 = .ok (.if_icmp .ne 7, 3) := by decide +kernel
theorem dX12_inDoc_24 : decode cX12_inDoc 24 = .ok (.iconst 1, 1) := by decide +kernel
theorem dX12_inDoc_25 : decode cX12_inDoc 25 = .ok (.goto 4, 3) := by decide +kernel
theorem dX12_inDoc_28 : decode cX12_inDoc 28 = .ok (.iconst 0, 1) := by decide +kernel
theorem dX12_inDoc_29 : decode cX12_inDoc 29 = .ok (.ireturn, 1) := by decide +kernel
theorem dX12_depth_0 : decode cX12_depth 0 = .ok (.iload_n 1, 1) := by decide +kernel
theorem dX12_depth_1 : decode cX12_depth 1 = .ok (.istore_n 2, 1) := by decide +kernel
theorem dX12_depth_2 : decode cX12_depth 2 = .ok (.iconst 0, 1) := by decide +kernel
theorem dX12_depth_3 : decode cX12_depth 3 = .ok (.istore_n 3, 1) := by decide +kernel
theorem dX12_depth_4 : decode cX12_depth 4 = .ok (.iload_n 2, 1) := by decide +kernel
theorem dX12_depth_5 : decode cX12_depth 5 = .ok (.ifCond .lt 15, 3) := by decide +kernel
theorem dX12_depth_8 : decode cX12_depth 8 = .ok (.iinc 3 1, 3) := by decide +kernel
theorem dX12_depth_11 : decode cX12_depth 11 = .ok (.aload_n 0, 1) := by decide +kernel
theorem dX12_depth_12 : decode cX12_depth 12 = .ok (.iload_n 2, 1) := by decide +kernel
theorem dX12_depth_13 : decode cX12_depth 13 = .ok (.invokevirtual 242, 3) := by decide +kernel
theorem dX12_depth_16 : decode cX12_depth 16 = .ok (.istore_n 2, 1) := by decide +kernel
theorem dX12_depth_17 : decode cX12_depth 17 = .ok (.goto (-13), 3) := by decide +kernel
theorem dX12_depth_20 : decode cX12_depth 20 = .ok (.iload_n 3, 1) := by decide +kernel
theorem dX12_depth_21 : decode cX12_depth 21 = .ok (.ireturn, 1) := by decide +kernel
theorem dX12_docMask_0 : decode cX12_docMask 0 = .ok (.iconst 0, 1) := by decide +kernel
theorem dX12_docMask_1 : decode cX12_docMask 1 = .ok (.istore_n 1, 1) := by decide +kernel
theorem dX12_docMask_2 : decode cX12_docMask 2 = .ok (.iconst 0, 1) := by decide +kernel
theorem dX12_docMask_3 : decode cX12_docMask 3 = .ok (.istore_n 2, 1) := by decide +kernel
theorem dX12_docMask_4 : decode cX12_docMask 4 = .ok (.iload_n 2, 1) := by decide +kernel
theorem dX12_docMask_5 : decode cX12_docMask 5 = .ok (.aload_n 0, 1) := by decide +kernel
theorem dX12_docMask_6 : decode cX12_docMask 6 = .ok (.getfield 217, 3) := by decide +kernel
theorem dX12_docMask_9 : decode cX12_docMask 9 = .ok (.if_icmp .ge 27, 3) := by decide +kernel
theorem dX12_docMask_12 : decode cX12_docMask 12 = .ok (.iload_n 1, 1) := by decide +kernel
theorem dX12_docMask_13 : decode cX12_docMask 13 = .ok (.aload_n 0, 1) := by decide +kernel
theorem dX12_docMask_14 : decode cX12_docMask 14 = .ok (.iload_n 2, 1) := by decide +kernel
theorem dX12_docMask_15 : decode cX12_docMask 15 = .ok (.invokevirtual 245, 3) := by decide +kernel
theorem dX12_docMask_18 : decode cX12_docMask 18 = .ok (.ifCond .eq 9, 3) := by decide +kernel
theorem dX12_docMask_21 : decode cX12_docMask 21 = .ok (.iconst 1, 1) := by decide +kernel
theorem dX12_docMask_22 : decode cX12_docMask 22 = .ok (.iload_n 2, 1) := by decide +kernel
theorem dX12_docMask_23 : decode cX12_docMask 23 = .ok (.ishl, 1) := by decide +kernel
theorem dX12_docMask_24 : decode cX12_docMask 24 = .ok (.goto 4, 3) := by decide +kernel
theorem dX12_docMask_27 : decode cX12_docMask 27 = .ok (.iconst 0, 1) := by decide +kernel
theorem dX12_docMask_28 : decode cX12_docMask 28 = .ok (.ior, 1) := by decide +kernel
theorem dX12_docMask_29 : decode cX12_docMask 29 = .ok (.istore_n 1, 1) := by decide +kernel
theorem dX12_docMask_30 : decode cX12_docMask 30 = .ok (.iinc 2 1, 3) := by decide +kernel
theorem dX12_docMask_33 : decode cX12_docMask 33 = .ok (.goto (-29), 3) := by decide +kernel
theorem dX12_docMask_36 : decode cX12_docMask 36 = .ok (.iload_n 1, 1) := by decide +kernel
theorem dX12_docMask_37 : decode cX12_docMask 37 = .ok (.ireturn, 1) := by decide +kernel
theorem dX12_placeOf_0 : decode cX12_placeOf 0 = .ok (.iconst 0, 1) := by decide +kernel
theorem dX12_placeOf_1 : decode cX12_placeOf 1 = .ok (.istore_n 2, 1) := by decide +kernel
theorem dX12_placeOf_2 : decode cX12_placeOf 2 = .ok (.aload_n 0, 1) := by decide +kernel
theorem dX12_placeOf_3 : decode cX12_placeOf 3 = .ok (.getfield 28, 3) := by decide +kernel
theorem dX12_placeOf_6 : decode cX12_placeOf 6 = .ok (.iload_n 1, 1) := by decide +kernel
theorem dX12_placeOf_7 : decode cX12_placeOf 7 = .ok (.iaload, 1) := by decide +kernel
theorem dX12_placeOf_8 : decode cX12_placeOf 8 = .ok (.ifCond .lt 29, 3) := by decide +kernel
theorem dX12_placeOf_11 : decode cX12_placeOf 11 = .ok (.aload_n 0, 1) := by decide +kernel
theorem dX12_placeOf_12 : decode cX12_placeOf 12 = .ok (.getfield 37, 3) := by decide +kernel
theorem dX12_placeOf_15 : decode cX12_placeOf 15 = .ok (.bipush 30, 2) := by decide +kernel
theorem dX12_placeOf_17 : decode cX12_placeOf 17 = .ok (.aload_n 0, 1) := by decide +kernel
theorem dX12_placeOf_18 : decode cX12_placeOf 18 = .ok (.getfield 28, 3) := by decide +kernel
theorem dX12_placeOf_21 : decode cX12_placeOf 21 = .ok (.iload_n 1, 1) := by decide +kernel
theorem dX12_placeOf_22 : decode cX12_placeOf 22 = .ok (.iaload, 1) := by decide +kernel
theorem dX12_placeOf_23 : decode cX12_placeOf 23 = .ok (.imul, 1) := by decide +kernel
theorem dX12_placeOf_24 : decode cX12_placeOf 24 = .ok (.iload_n 2, 1) := by decide +kernel
theorem dX12_placeOf_25 : decode cX12_placeOf 25 = .ok (.iadd, 1) := by decide +kernel
theorem dX12_placeOf_26 : decode cX12_placeOf 26 = .ok (.iaload, 1) := by decide +kernel
theorem dX12_placeOf_27 : decode cX12_placeOf 27 = .ok (.iload_n 1, 1) := by decide +kernel
theorem dX12_placeOf_28 : decode cX12_placeOf 28 = .ok (.if_icmp .eq 44, 3) := by decide +kernel
theorem dX12_placeOf_31 : decode cX12_placeOf 31 = .ok (.iinc 2 1, 3) := by decide +kernel
theorem dX12_placeOf_34 : decode cX12_placeOf 34 = .ok (.goto (-23), 3) := by decide +kernel
theorem dX12_placeOf_37 : decode cX12_placeOf 37 = .ok (.aload_n 0, 1) := by decide +kernel
theorem dX12_placeOf_38 : decode cX12_placeOf 38 = .ok (.getfield 31, 3) := by decide +kernel
theorem dX12_placeOf_41 : decode cX12_placeOf 41 = .ok (.iload_n 1, 1) := by decide +kernel
theorem dX12_placeOf_42 : decode cX12_placeOf 42 = .ok (.iaload, 1) := by decide +kernel
theorem dX12_placeOf_43 : decode cX12_placeOf 43 = .ok (.ifCond .lt 29, 3) := by decide +kernel
theorem dX12_placeOf_46 : decode cX12_placeOf 46 = .ok (.aload_n 0, 1) := by decide +kernel
theorem dX12_placeOf_47 : decode cX12_placeOf 47 = .ok (.getfield 43, 3) := by decide +kernel
theorem dX12_placeOf_50 : decode cX12_placeOf 50 = .ok (.bipush 30, 2) := by decide +kernel
theorem dX12_placeOf_52 : decode cX12_placeOf 52 = .ok (.aload_n 0, 1) := by decide +kernel
theorem dX12_placeOf_53 : decode cX12_placeOf 53 = .ok (.getfield 31, 3) := by decide +kernel
theorem dX12_placeOf_56 : decode cX12_placeOf 56 = .ok (.iload_n 1, 1) := by decide +kernel
theorem dX12_placeOf_57 : decode cX12_placeOf 57 = .ok (.iaload, 1) := by decide +kernel
theorem dX12_placeOf_58 : decode cX12_placeOf 58 = .ok (.imul, 1) := by decide +kernel
theorem dX12_placeOf_59 : decode cX12_placeOf 59 = .ok (.iload_n 2, 1) := by decide +kernel
theorem dX12_placeOf_60 : decode cX12_placeOf 60 = .ok (.iadd, 1) := by decide +kernel
theorem dX12_placeOf_61 : decode cX12_placeOf 61 = .ok (.iaload, 1) := by decide +kernel
theorem dX12_placeOf_62 : decode cX12_placeOf 62 = .ok (.iload_n 1, 1) := by decide +kernel
theorem dX12_placeOf_63 : decode cX12_placeOf 63 = .ok (.if_icmp .eq 9, 3) := by decide +kernel
theorem dX12_placeOf_66 : decode cX12_placeOf 66 = .ok (.iinc 2 1, 3) := by decide +kernel
theorem dX12_placeOf_69 : decode cX12_placeOf 69 = .ok (.goto (-23), 3) := by decide +kernel
theorem dX12_placeOf_72 : decode cX12_placeOf 72 = .ok (.iload_n 2, 1) := by decide +kernel
theorem dX12_placeOf_73 : decode cX12_placeOf 73 = .ok (.ireturn, 1) := by decide +kernel
theorem dX12_sibling_0 : decode cX12_sibling 0 = .ok (.aload_n 0, 1) := by decide +kernel
theorem dX12_sibling_1 : decode cX12_sibling 1 = .ok (.iload_n 1, 1) := by decide +kernel
theorem dX12_sibling_2 : decode cX12_sibling 2 = .ok (.invokevirtual 248, 3) := by decide +kernel
theorem dX12_sibling_5 : decode cX12_sibling 5 = .ok (.iconst 1, 1) := by decide +kernel
theorem dX12_sibling_6 : decode cX12_sibling 6 = .ok (.iadd, 1) := by decide +kernel
theorem dX12_sibling_7 : decode cX12_sibling 7 = .ok (.istore_n 2, 1) := by decide +kernel
theorem dX12_sibling_8 : decode cX12_sibling 8 = .ok (.aload_n 0, 1) := by decide +kernel
theorem dX12_sibling_9 : decode cX12_sibling 9 = .ok (.getfield 28, 3) := by decide +kernel
theorem dX12_sibling_12 : decode cX12_sibling 12 = .ok (.iload_n 1, 1) := by decide +kernel
theorem dX12_sibling_13 : decode cX12_sibling 13 = .ok (.iaload, 1) := by decide +kernel
theorem dX12_sibling_14 : decode cX12_sibling 14 = .ok (.ifCond .lt 39, 3) := by decide +kernel
theorem dX12_sibling_17 : decode cX12_sibling 17 = .ok (.iload_n 2, 1) := by decide +kernel
theorem dX12_sibling_18 : decode cX12_sibling 18 = .ok (.aload_n 0, 1) := by decide +kernel
theorem dX12_sibling_19 : decode cX12_sibling 19 = .ok (.getfield 40, 3) := by decide +kernel
theorem dX12_sibling_22 : decode cX12_sibling 22 = .ok (.aload_n 0, 1) := by decide +kernel
theorem dX12_sibling_23 : decode cX12_sibling 23 = .ok (.getfield 28, 3) := by decide +kernel
theorem dX12_sibling_26 : decode cX12_sibling 26 = .ok (.iload_n 1, 1) := by decide +kernel
theorem dX12_sibling_27 : decode cX12_sibling 27 = .ok (.iaload, 1) := by decide +kernel
theorem dX12_sibling_28 : decode cX12_sibling 28 = .ok (.iaload, 1) := by decide +kernel
theorem dX12_sibling_29 : decode cX12_sibling 29 = .ok (.if_icmp .ge 22, 3) := by decide +kernel
theorem dX12_sibling_32 : decode cX12_sibling 32 = .ok (.aload_n 0, 1) := by decide +kernel
theorem dX12_sibling_33 : decode cX12_sibling 33 = .ok (.getfield 37, 3) := by decide +kernel
theorem dX12_sibling_36 : decode cX12_sibling 36 = .ok (.bipush 30, 2) := by decide +kernel
theorem dX12_sibling_38 : decode cX12_sibling 38 = .ok (.aload_n 0, 1) := by decide +kernel
theorem dX12_sibling_39 : decode cX12_sibling 39 = .ok (.getfield 28, 3) := by decide +kernel
theorem dX12_sibling_42 : decode cX12_sibling 42 = .ok (.iload_n 1, 1) := by decide +kernel
theorem dX12_sibling_43 : decode cX12_sibling 43 = .ok (.iaload, 1) := by decide +kernel
theorem dX12_sibling_44 : decode cX12_sibling 44 = .ok (.imul, 1) := by decide +kernel
theorem dX12_sibling_45 : decode cX12_sibling 45 = .ok (.iload_n 2, 1) := by decide +kernel
theorem dX12_sibling_46 : decode cX12_sibling 46 = .ok (.iadd, 1) := by decide +kernel
theorem dX12_sibling_47 : decode cX12_sibling 47 = .ok (.iaload, 1) := by decide +kernel
theorem dX12_sibling_48 : decode cX12_sibling 48 = .ok (.goto 4, 3) := by decide +kernel
theorem dX12_sibling_51 : decode cX12_sibling 51 = .ok (.iconst (-1), 1) := by decide +kernel
theorem dX12_sibling_52 : decode cX12_sibling 52 = .ok (.ireturn, 1) := by decide +kernel
theorem dX12_sibling_53 : decode cX12_sibling 53 = .ok (.aload_n 0, 1) := by decide +kernel
theorem dX12_sibling_54 : decode cX12_sibling 54 = .ok (.getfield 31, 3) := by decide +kernel
theorem dX12_sibling_57 : decode cX12_sibling 57 = .ok (.iload_n 1, 1) := by decide +kernel
theorem dX12_sibling_58 : decode cX12_sibling 58 = .ok (.iaload, 1) := by decide +kernel
theorem dX12_sibling_59 : decode cX12_sibling 59 = .ok (.ifCond .lt 37, 3) := by decide +kernel
theorem dX12_sibling_62 : decode cX12_sibling 62 = .ok (.iload_n 2, 1) := by decide +kernel
theorem dX12_sibling_63 : decode cX12_sibling 63 = .ok (.aload_n 0, 1) := by decide +kernel
theorem dX12_sibling_64 : decode cX12_sibling 64 = .ok (.getfield 46, 3) := by decide +kernel
theorem dX12_sibling_67 : decode cX12_sibling 67 = .ok (.aload_n 0, 1) := by decide +kernel
theorem dX12_sibling_68 : decode cX12_sibling 68 = .ok (.getfield 31, 3) := by decide +kernel
theorem dX12_sibling_71 : decode cX12_sibling 71 = .ok (.iload_n 1, 1) := by decide +kernel
theorem dX12_sibling_72 : decode cX12_sibling 72 = .ok (.iaload, 1) := by decide +kernel
theorem dX12_sibling_73 : decode cX12_sibling 73 = .ok (.iaload, 1) := by decide +kernel
theorem dX12_sibling_74 : decode cX12_sibling 74 = .ok (.if_icmp .ge 22, 3) := by decide +kernel
theorem dX12_sibling_77 : decode cX12_sibling 77 = .ok (.aload_n 0, 1) := by decide +kernel
theorem dX12_sibling_78 : decode cX12_sibling 78 = .ok (.getfield 43, 3) := by decide +kernel
theorem dX12_sibling_81 : decode cX12_sibling 81 = .ok (.bipush 30, 2) := by decide +kernel
theorem dX12_sibling_83 : decode cX12_sibling 83 = .ok (.aload_n 0, 1) := by decide +kernel
theorem dX12_sibling_84 : decode cX12_sibling 84 = .ok (.getfield 31, 3) := by decide +kernel
theorem dX12_sibling_87 : decode cX12_sibling 87 = .ok (.iload_n 1, 1) := by decide +kernel
theorem dX12_sibling_88 : decode cX12_sibling 88 = .ok (.iaload, 1) := by decide +kernel
theorem dX12_sibling_89 : decode cX12_sibling 89 = .ok (.imul, 1) := by decide +kernel
theorem dX12_sibling_90 : decode cX12_sibling 90 = .ok (.iload_n 2, 1) := by decide +kernel
theorem dX12_sibling_91 : decode cX12_sibling 91 = .ok (.iadd, 1) := by decide +kernel
theorem dX12_sibling_92 : decode cX12_sibling 92 = .ok (.iaload, 1) := by decide +kernel
theorem dX12_sibling_93 : decode cX12_sibling 93 = .ok (.goto 4, 3) := by decide +kernel
theorem dX12_sibling_96 : decode cX12_sibling 96 = .ok (.iconst (-1), 1) := by decide +kernel
theorem dX12_sibling_97 : decode cX12_sibling 97 = .ok (.ireturn, 1) := by decide +kernel
theorem dX12_nextIn_0 : decode cX12_nextIn 0 = .ok (.aload_n 0, 1) := by decide +kernel
theorem dX12_nextIn_1 : decode cX12_nextIn 1 = .ok (.getfield 40, 3) := by decide +kernel
theorem dX12_nextIn_4 : decode cX12_nextIn 4 = .ok (.iload_n 1, 1) := by decide +kernel
theorem dX12_nextIn_5 : decode cX12_nextIn 5 = .ok (.iaload, 1) := by decide +kernel
theorem dX12_nextIn_6 : decode cX12_nextIn 6 = .ok (.ifCond .le 13, 3) := by decide +kernel
theorem dX12_nextIn_9 : decode cX12_nextIn 9 = .ok (.aload_n 0, 1) := by decide +kernel
theorem dX12_nextIn_10 : decode cX12_nextIn 10 = .ok (.getfield 37, 3) := by decide +kernel
theorem dX12_nextIn_13 : decode cX12_nextIn 13 = .ok (.bipush 30, 2) := by decide +kernel
theorem dX12_nextIn_15 : decode cX12_nextIn 15 = .ok (.iload_n 1, 1) := by decide +kernel
theorem dX12_nextIn_16 : decode cX12_nextIn 16 = .ok (.imul, 1) := by decide +kernel
theorem dX12_nextIn_17 : decode cX12_nextIn 17 = .ok (.iaload, 1) := by decide +kernel
theorem dX12_nextIn_18 : decode cX12_nextIn 18 = .ok (.ireturn, 1) := by decide +kernel
theorem dX12_nextIn_19 : decode cX12_nextIn 19 = .ok (.iload_n 1, 1) := by decide +kernel
theorem dX12_nextIn_20 : decode cX12_nextIn 20 = .ok (.istore_n 2, 1) := by decide +kernel
theorem dX12_nextIn_21 : decode cX12_nextIn 21 = .ok (.iload_n 2, 1) := by decide +kernel
theorem dX12_nextIn_22 : decode cX12_nextIn 22 = .ok (.ifCond .lt 21, 3) := by decide +kernel
theorem dX12_nextIn_25 : decode cX12_nextIn 25 = .ok (.aload_n 0, 1) := by decide +kernel
theorem dX12_nextIn_26 : decode cX12_nextIn 26 = .ok (.iload_n 2, 1) := by decide +kernel
theorem dX12_nextIn_27 : decode cX12_nextIn 27 = .ok (.invokevirtual 251, 3) := by decide +kernel
theorem dX12_nextIn_30 : decode cX12_nextIn 30 = .ok (.ifCond .ge 13, 3) := by decide +kernel
theorem dX12_nextIn_33 : decode cX12_nextIn 33 = .ok (.aload_n 0, 1) := by decide +kernel
theorem dX12_nextIn_34 : decode cX12_nextIn 34 = .ok (.getfield 28, 3) := by decide +kernel
theorem dX12_nextIn_37 : decode cX12_nextIn 37 = .ok (.iload_n 2, 1) := by decide +kernel
theorem dX12_nextIn_38 : decode cX12_nextIn 38 = .ok (.iaload, 1) := by decide +kernel
theorem dX12_nextIn_39 : decode cX12_nextIn 39 = .ok (.istore_n 2, 1) := by decide +kernel
theorem dX12_nextIn_40 : decode cX12_nextIn 40 = .ok (.goto (-19), 3) := by decide +kernel
theorem dX12_nextIn_43 : decode cX12_nextIn 43 = .ok (.iload_n 2, 1) := by decide +kernel
theorem dX12_nextIn_44 : decode cX12_nextIn 44 = .ok (.ifCond .ge 7, 3) := by decide +kernel
theorem dX12_nextIn_47 : decode cX12_nextIn 47 = .ok (.iconst (-1), 1) := by decide +kernel
theorem dX12_nextIn_48 : decode cX12_nextIn 48 = .ok (.goto 8, 3) := by decide +kernel
theorem dX12_nextIn_51 : decode cX12_nextIn 51 = .ok (.aload_n 0, 1) := by decide +kernel
theorem dX12_nextIn_52 : decode cX12_nextIn 52 = .ok (.iload_n 2, 1) := by decide +kernel
theorem dX12_nextIn_53 : decode cX12_nextIn 53 = .ok (.invokevirtual 251, 3) := by decide +kernel
theorem dX12_nextIn_56 : decode cX12_nextIn 56 = .ok (.ireturn, 1) := by decide +kernel
theorem dX12_slot_0 : decode cX12_slot 0 = .ok (.aload_n 0, 1) := by decide +kernel
theorem dX12_slot_1 : decode cX12_slot 1 = .ok (.getfield 46, 3) := by decide +kernel
theorem dX12_slot_4 : decode cX12_slot 4 = .ok (.iload_n 1, 1) := by decide +kernel
theorem dX12_slot_5 : decode cX12_slot 5 = .ok (.iaload, 1) := by decide +kernel
theorem dX12_slot_6 : decode cX12_slot 6 = .ok (.ifCond .le 15, 3) := by decide +kernel
theorem dX12_slot_9 : decode cX12_slot 9 = .ok (.aload_n 0, 1) := by decide +kernel
theorem dX12_slot_10 : decode cX12_slot 10 = .ok (.getfield 43, 3) := by decide +kernel
theorem dX12_slot_13 : decode cX12_slot 13 = .ok (.bipush 30, 2) := by decide +kernel
theorem dX12_slot_15 : decode cX12_slot 15 = .ok (.iload_n 1, 1) := by decide +kernel
theorem dX12_slot_16 : decode cX12_slot 16 = .ok (.imul, 1) := by decide +kernel
theorem dX12_slot_17 : decode cX12_slot 17 = .ok (.iaload, 1) := by decide +kernel
theorem dX12_slot_18 : decode cX12_slot 18 = .ok (.goto 4, 3) := by decide +kernel
theorem dX12_slot_21 : decode cX12_slot 21 = .ok (.iconst (-1), 1) := by decide +kernel
theorem dX12_slot_22 : decode cX12_slot 22 = .ok (.istore_n 3, 1) := by decide +kernel
theorem dX12_slot_23 : decode cX12_slot 23 = .ok (.iload_n 3, 1) := by decide +kernel
theorem dX12_slot_24 : decode cX12_slot 24 = .ok (.ifCond .lt 33, 3) := by decide +kernel
theorem dX12_slot_27 : decode cX12_slot 27 = .ok (.aload_n 0, 1) := by decide +kernel
theorem dX12_slot_28 : decode cX12_slot 28 = .ok (.getfield 7, 3) := by decide +kernel
theorem dX12_slot_31 : decode cX12_slot 31 = .ok (.iload_n 3, 1) := by decide +kernel
theorem dX12_slot_32 : decode cX12_slot 32 = .ok (.iaload, 1) := by decide +kernel
theorem dX12_slot_33 : decode cX12_slot 33 = .ok (.bipush 7, 2) := by decide +kernel
theorem dX12_slot_35 : decode cX12_slot 35 = .ok (.if_icmp .ne 13, 3) := by decide +kernel
theorem dX12_slot_38 : decode cX12_slot 38 = .ok (.aload_n 0, 1) := by decide +kernel
theorem dX12_slot_39 : decode cX12_slot 39 = .ok (.getfield 22, 3) := by decide +kernel
theorem dX12_slot_42 : decode cX12_slot 42 = .ok (.iload_n 3, 1) := by decide +kernel
theorem dX12_slot_43 : decode cX12_slot 43 = .ok (.iaload, 1) := by decide +kernel
theorem dX12_slot_44 : decode cX12_slot 44 = .ok (.iload_n 2, 1) := by decide +kernel
theorem dX12_slot_45 : decode cX12_slot 45 = .ok (.if_icmp .eq 12, 3) := by decide +kernel
theorem dX12_slot_48 : decode cX12_slot 48 = .ok (.aload_n 0, 1) := by decide +kernel
theorem dX12_slot_49 : decode cX12_slot 49 = .ok (.iload_n 3, 1) := by decide +kernel
theorem dX12_slot_50 : decode cX12_slot 50 = .ok (.invokevirtual 254, 3) := by decide +kernel
theorem dX12_slot_53 : decode cX12_slot 53 = .ok (.istore_n 3, 1) := by decide +kernel
theorem dX12_slot_54 : decode cX12_slot 54 = .ok (.goto (-31), 3) := by decide +kernel
theorem dX12_slot_57 : decode cX12_slot 57 = .ok (.iload_n 3, 1) := by decide +kernel
theorem dX12_slot_58 : decode cX12_slot 58 = .ok (.ireturn, 1) := by decide +kernel
theorem dX12_shown_0 : decode cX12_shown 0 = .ok (.aload_n 0, 1) := by decide +kernel
theorem dX12_shown_1 : decode cX12_shown 1 = .ok (.getfield 31, 3) := by decide +kernel
theorem dX12_shown_4 : decode cX12_shown 4 = .ok (.iload_n 1, 1) := by decide +kernel
theorem dX12_shown_5 : decode cX12_shown 5 = .ok (.iaload, 1) := by decide +kernel
theorem dX12_shown_6 : decode cX12_shown 6 = .ok (.ifCond .lt 10, 3) := by decide +kernel
theorem dX12_shown_9 : decode cX12_shown 9 = .ok (.aload_n 0, 1) := by decide +kernel
theorem dX12_shown_10 : decode cX12_shown 10 = .ok (.getfield 31, 3) := by decide +kernel
theorem dX12_shown_13 : decode cX12_shown 13 = .ok (.iload_n 1, 1) := by decide +kernel
theorem dX12_shown_14 : decode cX12_shown 14 = .ok (.iaload, 1) := by decide +kernel
theorem dX12_shown_15 : decode cX12_shown 15 = .ok (.ireturn, 1) := by decide +kernel
theorem dX12_shown_16 : decode cX12_shown 16 = .ok (.aload_n 0, 1) := by decide +kernel
theorem dX12_shown_17 : decode cX12_shown 17 = .ok (.getfield 28, 3) := by decide +kernel
theorem dX12_shown_20 : decode cX12_shown 20 = .ok (.iload_n 1, 1) := by decide +kernel
theorem dX12_shown_21 : decode cX12_shown 21 = .ok (.iaload, 1) := by decide +kernel
theorem dX12_shown_22 : decode cX12_shown 22 = .ok (.istore_n 2, 1) := by decide +kernel
theorem dX12_shown_23 : decode cX12_shown 23 = .ok (.iload_n 2, 1) := by decide +kernel
theorem dX12_shown_24 : decode cX12_shown 24 = .ok (.ifCond .lt 35, 3) := by decide +kernel
theorem dX12_shown_27 : decode cX12_shown 27 = .ok (.aload_n 0, 1) := by decide +kernel
theorem dX12_shown_28 : decode cX12_shown 28 = .ok (.getfield 34, 3) := by decide +kernel
theorem dX12_shown_31 : decode cX12_shown 31 = .ok (.iload_n 2, 1) := by decide +kernel
theorem dX12_shown_32 : decode cX12_shown 32 = .ok (.iaload, 1) := by decide +kernel
theorem dX12_shown_33 : decode cX12_shown 33 = .ok (.iconst 1, 1) := by decide +kernel
theorem dX12_shown_34 : decode cX12_shown 34 = .ok (.if_icmp .ne 25, 3) := by decide +kernel
theorem dX12_shown_37 : decode cX12_shown 37 = .ok (.aload_n 0, 1) := by decide +kernel
theorem dX12_shown_38 : decode cX12_shown 38 = .ok (.iload_n 2, 1) := by decide +kernel
theorem dX12_shown_39 : decode cX12_shown 39 = .ok (.aload_n 0, 1) := by decide +kernel
theorem dX12_shown_40 : decode cX12_shown 40 = .ok (.getfield 22, 3) := by decide +kernel
theorem dX12_shown_43 : decode cX12_shown 43 = .ok (.iload_n 1, 1) := by decide +kernel
theorem dX12_shown_44 : decode cX12_shown 44 = .ok (.iaload, 1) := by decide +kernel
theorem dX12_shown_45 : decode cX12_shown 45 = .ok (.invokevirtual 257, 3) := by decide +kernel
theorem dX12_shown_48 : decode cX12_shown 48 = .ok (.istore_n 3, 1) := by decide +kernel
theorem dX12_shown_49 : decode cX12_shown 49 = .ok (.iload_n 3, 1) := by decide +kernel
theorem dX12_shown_50 : decode cX12_shown 50 = .ok (.ifCond .lt 7, 3) := by decide +kernel
theorem dX12_shown_53 : decode cX12_shown 53 = .ok (.iload_n 3, 1) := by decide +kernel
theorem dX12_shown_54 : decode cX12_shown 54 = .ok (.goto 4, 3) := by decide +kernel
theorem dX12_shown_57 : decode cX12_shown 57 = .ok (.iload_n 2, 1) := by decide +kernel
theorem dX12_shown_58 : decode cX12_shown 58 = .ok (.ireturn, 1) := by decide +kernel
theorem dX12_shown_59 : decode cX12_shown 59 = .ok (.iload_n 2, 1) := by decide +kernel
theorem dX12_shown_60 : decode cX12_shown 60 = .ok (.ireturn, 1) := by decide +kernel
theorem dX12_fanIn_0 : decode cX12_fanIn 0 = .ok (.aload_n 0, 1) := by decide +kernel
theorem dX12_fanIn_1 : decode cX12_fanIn 1 = .ok (.iload_n 1, 1) := by decide +kernel
theorem dX12_fanIn_2 : decode cX12_fanIn 2 = .ok (.invokevirtual 268, 3) := by decide +kernel
theorem dX12_fanIn_5 : decode cX12_fanIn 5 = .ok (.iload_n 2, 1) := by decide +kernel
theorem dX12_fanIn_6 : decode cX12_fanIn 6 = .ok (.if_icmp .ne 23, 3) := by decide +kernel
theorem dX12_fanIn_9 : decode cX12_fanIn 9 = .ok (.aload_n 0, 1) := by decide +kernel
theorem dX12_fanIn_10 : decode cX12_fanIn 10 = .ok (.getfield 199, 3) := by decide +kernel
theorem dX12_fanIn_13 : decode cX12_fanIn 13 = .ok (.aload_n 0, 1) := by decide +kernel
theorem dX12_fanIn_14 : decode cX12_fanIn 14 = .ok (.getfield 261, 3) := by decide +kernel
theorem dX12_fanIn_17 : decode cX12_fanIn 17 = .ok (.iload_n 1, 1) := by decide +kernel
theorem dX12_fanIn_18 : decode cX12_fanIn 18 = .ok (.iastore, 1) := by decide +kernel
theorem dX12_fanIn_19 : decode cX12_fanIn 19 = .ok (.aload_n 0, 1) := by decide +kernel
theorem dX12_fanIn_20 : decode cX12_fanIn 20 = .ok (.dup, 1) := by decide +kernel
theorem dX12_fanIn_21 : decode cX12_fanIn 21 = .ok (.getfield 261, 3) := by decide +kernel
theorem dX12_fanIn_24 : decode cX12_fanIn 24 = .ok (.iconst 1, 1) := by decide +kernel
theorem dX12_fanIn_25 : decode cX12_fanIn 25 = .ok (.iadd, 1) := by decide +kernel
theorem dX12_fanIn_26 : decode cX12_fanIn 26 = .ok (.putfield 261, 3) := by decide +kernel
theorem dX12_fanIn_29 : decode cX12_fanIn 29 = .ok (.return_, 1) := by decide +kernel
theorem dX12_fanOf_0 : decode cX12_fanOf 0 = .ok (.aload_n 0, 1) := by decide +kernel
theorem dX12_fanOf_1 : decode cX12_fanOf 1 = .ok (.iload_n 1, 1) := by decide +kernel
theorem dX12_fanOf_2 : decode cX12_fanOf 2 = .ok (.invokevirtual 242, 3) := by decide +kernel
theorem dX12_fanOf_5 : decode cX12_fanOf 5 = .ok (.istore_n 2, 1) := by decide +kernel
theorem dX12_fanOf_6 : decode cX12_fanOf 6 = .ok (.aload_n 0, 1) := by decide +kernel
theorem dX12_fanOf_7 : decode cX12_fanOf 7 = .ok (.iconst 0, 1) := by decide +kernel
theorem dX12_fanOf_8 : decode cX12_fanOf 8 = .ok (.putfield 261, 3) := by decide +kernel
theorem dX12_fanOf_11 : decode cX12_fanOf 11 = .ok (.iload_n 2, 1) := by decide +kernel
theorem dX12_fanOf_12 : decode cX12_fanOf 12 = .ok (.ifCond .lt 48, 3) := by decide +kernel
theorem dX12_fanOf_15 : decode cX12_fanOf 15 = .ok (.aload_n 0, 1) := by decide +kernel
theorem dX12_fanOf_16 : decode cX12_fanOf 16 = .ok (.getfield 7, 3) := by decide +kernel
theorem dX12_fanOf_19 : decode cX12_fanOf 19 = .ok (.iload_n 1, 1) := by decide +kernel
theorem dX12_fanOf_20 : decode cX12_fanOf 20 = .ok (.iaload, 1) := by decide +kernel
theorem dX12_fanOf_21 : decode cX12_fanOf 21 = .ok (.bipush 7, 2) := by decide +kernel
theorem dX12_fanOf_23 : decode cX12_fanOf 23 = .ok (.if_icmp .ne 37, 3) := by decide +kernel
theorem dX12_fanOf_26 : decode cX12_fanOf 26 = .ok (.iconst 0, 1) := by decide +kernel
theorem dX12_fanOf_27 : decode cX12_fanOf 27 = .ok (.istore_n 3, 1) := by decide +kernel
theorem dX12_fanOf_28 : decode cX12_fanOf 28 = .ok (.iload_n 3, 1) := by decide +kernel
theorem dX12_fanOf_29 : decode cX12_fanOf 29 = .ok (.aload_n 0, 1) := by decide +kernel
theorem dX12_fanOf_30 : decode cX12_fanOf 30 = .ok (.getfield 40, 3) := by decide +kernel
theorem dX12_fanOf_33 : decode cX12_fanOf 33 = .ok (.iload_n 2, 1) := by decide +kernel
theorem dX12_fanOf_34 : decode cX12_fanOf 34 = .ok (.iaload, 1) := by decide +kernel
theorem dX12_fanOf_35 : decode cX12_fanOf 35 = .ok (.if_icmp .ge 25, 3) := by decide +kernel
theorem dX12_fanOf_38 : decode cX12_fanOf 38 = .ok (.aload_n 0, 1) := by decide +kernel
theorem dX12_fanOf_39 : decode cX12_fanOf 39 = .ok (.aload_n 0, 1) := by decide +kernel
theorem dX12_fanOf_40 : decode cX12_fanOf 40 = .ok (.getfield 37, 3) := by decide +kernel
theorem dX12_fanOf_43 : decode cX12_fanOf 43 = .ok (.bipush 30, 2) := by decide +kernel
theorem dX12_fanOf_45 : decode cX12_fanOf 45 = .ok (.iload_n 2, 1) := by decide +kernel
theorem dX12_fanOf_46 : decode cX12_fanOf 46 = .ok (.imul, 1) := by decide +kernel
theorem dX12_fanOf_47 : decode cX12_fanOf 47 = .ok (.iload_n 3, 1) := by decide +kernel
theorem dX12_fanOf_48 : decode cX12_fanOf 48 = .ok (.iadd, 1) := by decide +kernel
theorem dX12_fanOf_49 : decode cX12_fanOf 49 = .ok (.iaload, 1) := by decide +kernel
theorem dX12_fanOf_50 : decode cX12_fanOf 50 = .ok (.iload_n 1, 1) := by decide +kernel
theorem dX12_fanOf_51 : decode cX12_fanOf 51 = .ok (.invokevirtual 264, 3) := by decide +kernel
theorem dX12_fanOf_54 : decode cX12_fanOf 54 = .ok (.iinc 3 1, 3) := by decide +kernel
theorem dX12_fanOf_57 : decode cX12_fanOf 57 = .ok (.goto (-29), 3) := by decide +kernel
theorem dX12_fanOf_60 : decode cX12_fanOf 60 = .ok (.iconst 0, 1) := by decide +kernel
theorem dX12_fanOf_61 : decode cX12_fanOf 61 = .ok (.istore_n 3, 1) := by decide +kernel
theorem dX12_fanOf_62 : decode cX12_fanOf 62 = .ok (.iload_n 3, 1) := by decide +kernel
theorem dX12_fanOf_63 : decode cX12_fanOf 63 = .ok (.aload_n 0, 1) := by decide +kernel
theorem dX12_fanOf_64 : decode cX12_fanOf 64 = .ok (.getfield 46, 3) := by decide +kernel
theorem dX12_fanOf_67 : decode cX12_fanOf 67 = .ok (.iload_n 1, 1) := by decide +kernel
theorem dX12_fanOf_68 : decode cX12_fanOf 68 = .ok (.iaload, 1) := by decide +kernel
theorem dX12_fanOf_69 : decode cX12_fanOf 69 = .ok (.if_icmp .ge 25, 3) := by decide +kernel
theorem dX12_fanOf_72 : decode cX12_fanOf 72 = .ok (.aload_n 0, 1) := by decide +kernel
theorem dX12_fanOf_73 : decode cX12_fanOf 73 = .ok (.aload_n 0, 1) := by decide +kernel
theorem dX12_fanOf_74 : decode cX12_fanOf 74 = .ok (.getfield 43, 3) := by decide +kernel
theorem dX12_fanOf_77 : decode cX12_fanOf 77 = .ok (.bipush 30, 2) := by decide +kernel
theorem dX12_fanOf_79 : decode cX12_fanOf 79 = .ok (.iload_n 1, 1) := by decide +kernel
theorem dX12_fanOf_80 : decode cX12_fanOf 80 = .ok (.imul, 1) := by decide +kernel
theorem dX12_fanOf_81 : decode cX12_fanOf 81 = .ok (.iload_n 3, 1) := by decide +kernel
theorem dX12_fanOf_82 : decode cX12_fanOf 82 = .ok (.iadd, 1) := by decide +kernel
theorem dX12_fanOf_83 : decode cX12_fanOf 83 = .ok (.iaload, 1) := by decide +kernel
theorem dX12_fanOf_84 : decode cX12_fanOf 84 = .ok (.iload_n 1, 1) := by decide +kernel
theorem dX12_fanOf_85 : decode cX12_fanOf 85 = .ok (.invokevirtual 264, 3) := by decide +kernel
theorem dX12_fanOf_88 : decode cX12_fanOf 88 = .ok (.iinc 3 1, 3) := by decide +kernel
theorem dX12_fanOf_91 : decode cX12_fanOf 91 = .ok (.goto (-29), 3) := by decide +kernel
theorem dX12_fanOf_94 : decode cX12_fanOf 94 = .ok (.iconst 0, 1) := by decide +kernel
theorem dX12_fanOf_95 : decode cX12_fanOf 95 = .ok (.istore_n 3, 1) := by decide +kernel
theorem dX12_fanOf_96 : decode cX12_fanOf 96 = .ok (.iload_n 3, 1) := by decide +kernel
theorem dX12_fanOf_97 : decode cX12_fanOf 97 = .ok (.aload_n 0, 1) := by decide +kernel
theorem dX12_fanOf_98 : decode cX12_fanOf 98 = .ok (.getfield 40, 3) := by decide +kernel
theorem dX12_fanOf_101 : decode cX12_fanOf 101 = .ok (.iload_n 1, 1) := by decide +kernel
theorem dX12_fanOf_102 : decode cX12_fanOf 102 = .ok (.iaload, 1) := by decide +kernel
theorem dX12_fanOf_103 : decode cX12_fanOf 103 = .ok (.if_icmp .ge 25, 3) := by decide +kernel
theorem dX12_fanOf_106 : decode cX12_fanOf 106 = .ok (.aload_n 0, 1) := by decide +kernel
theorem dX12_fanOf_107 : decode cX12_fanOf 107 = .ok (.aload_n 0, 1) := by decide +kernel
theorem dX12_fanOf_108 : decode cX12_fanOf 108 = .ok (.getfield 37, 3) := by decide +kernel
theorem dX12_fanOf_111 : decode cX12_fanOf 111 = .ok (.bipush 30, 2) := by decide +kernel
theorem dX12_fanOf_113 : decode cX12_fanOf 113 = .ok (.iload_n 1, 1) := by decide +kernel
theorem dX12_fanOf_114 : decode cX12_fanOf 114 = .ok (.imul, 1) := by decide +kernel
theorem dX12_fanOf_115 : decode cX12_fanOf 115 = .ok (.iload_n 3, 1) := by decide +kernel
theorem dX12_fanOf_116 : decode cX12_fanOf 116 = .ok (.iadd, 1) := by decide +kernel
theorem dX12_fanOf_117 : decode cX12_fanOf 117 = .ok (.iaload, 1) := by decide +kernel
theorem dX12_fanOf_118 : decode cX12_fanOf 118 = .ok (.iload_n 1, 1) := by decide +kernel
theorem dX12_fanOf_119 : decode cX12_fanOf 119 = .ok (.invokevirtual 264, 3) := by decide +kernel
theorem dX12_fanOf_122 : decode cX12_fanOf 122 = .ok (.iinc 3 1, 3) := by decide +kernel
theorem dX12_fanOf_125 : decode cX12_fanOf 125 = .ok (.goto (-29), 3) := by decide +kernel
theorem dX12_fanOf_128 : decode cX12_fanOf 128 = .ok (.return_, 1) := by decide +kernel
theorem dX12_ordered_0 : decode cX12_ordered 0 = .ok (.iconst 0, 1) := by decide +kernel
theorem dX12_ordered_1 : decode cX12_ordered 1 = .ok (.istore_n 1, 1) := by decide +kernel
theorem dX12_ordered_2 : decode cX12_ordered 2 = .ok (.iload_n 1, 1) := by decide +kernel
theorem dX12_ordered_3 : decode cX12_ordered 3 = .ok (.aload_n 0, 1) := by decide +kernel
theorem dX12_ordered_4 : decode cX12_ordered 4 = .ok (.getfield 217, 3) := by decide +kernel
theorem dX12_ordered_7 : decode cX12_ordered 7 = .ok (.if_icmp .ge 20, 3) := by decide +kernel
theorem dX12_ordered_10 : decode cX12_ordered 10 = .ok (.aload_n 0, 1) := by decide +kernel
theorem dX12_ordered_11 : decode cX12_ordered 11 = .ok (.getfield 196, 3) := by decide +kernel
theorem dX12_ordered_14 : decode cX12_ordered 14 = .ok (.iload_n 1, 1) := by decide +kernel
theorem dX12_ordered_15 : decode cX12_ordered 15 = .ok (.aload_n 0, 1) := by decide +kernel
theorem dX12_ordered_16 : decode cX12_ordered 16 = .ok (.iload_n 1, 1) := by decide +kernel
theorem dX12_ordered_17 : decode cX12_ordered 17 = .ok (.invokevirtual 268, 3) := by decide +kernel
theorem dX12_ordered_20 : decode cX12_ordered 20 = .ok (.iastore, 1) := by decide +kernel
theorem dX12_ordered_21 : decode cX12_ordered 21 = .ok (.iinc 1 1, 3) := by decide +kernel
theorem dX12_ordered_24 : decode cX12_ordered 24 = .ok (.goto (-22), 3) := by decide +kernel
theorem dX12_ordered_27 : decode cX12_ordered 27 = .ok (.aload_n 0, 1) := by decide +kernel
theorem dX12_ordered_28 : decode cX12_ordered 28 = .ok (.iconst 0, 1) := by decide +kernel
theorem dX12_ordered_29 : decode cX12_ordered 29 = .ok (.putfield 271, 3) := by decide +kernel
theorem dX12_ordered_32 : decode cX12_ordered 32 = .ok (.aload_n 0, 1) := by decide +kernel
theorem dX12_ordered_33 : decode cX12_ordered 33 = .ok (.getfield 202, 3) := by decide +kernel
theorem dX12_ordered_36 : decode cX12_ordered 36 = .ok (.iconst 0, 1) := by decide +kernel
theorem dX12_ordered_37 : decode cX12_ordered 37 = .ok (.iconst 0, 1) := by decide +kernel
theorem dX12_ordered_38 : decode cX12_ordered 38 = .ok (.iastore, 1) := by decide +kernel
theorem dX12_ordered_39 : decode cX12_ordered 39 = .ok (.iconst 1, 1) := by decide +kernel
theorem dX12_ordered_40 : decode cX12_ordered 40 = .ok (.istore_n 1, 1) := by decide +kernel
theorem dX12_ordered_41 : decode cX12_ordered 41 = .ok (.iload_n 1, 1) := by decide +kernel
theorem dX12_ordered_42 : decode cX12_ordered 42 = .ok (.ifCond .le 73, 3) := by decide +kernel
theorem dX12_ordered_45 : decode cX12_ordered 45 = .ok (.iinc 1 (-1), 3) := by decide +kernel
theorem dX12_ordered_48 : decode cX12_ordered 48 = .ok (.aload_n 0, 1) := by decide +kernel
theorem dX12_ordered_49 : decode cX12_ordered 49 = .ok (.getfield 202, 3) := by decide +kernel
theorem dX12_ordered_52 : decode cX12_ordered 52 = .ok (.iload_n 1, 1) := by decide +kernel
theorem dX12_ordered_53 : decode cX12_ordered 53 = .ok (.iaload, 1) := by decide +kernel
theorem dX12_ordered_54 : decode cX12_ordered 54 = .ok (.istore_n 2, 1) := by decide +kernel
theorem dX12_ordered_55 : decode cX12_ordered 55 = .ok (.aload_n 0, 1) := by decide +kernel
theorem dX12_ordered_56 : decode cX12_ordered 56 = .ok (.getfield 193, 3) := by decide +kernel
theorem dX12_ordered_59 : decode cX12_ordered 59 = .ok (.aload_n 0, 1) := by decide +kernel
theorem dX12_ordered_60 : decode cX12_ordered 60 = .ok (.getfield 271, 3) := by decide +kernel
theorem dX12_ordered_63 : decode cX12_ordered 63 = .ok (.iload_n 2, 1) := by decide +kernel
theorem dX12_ordered_64 : decode cX12_ordered 64 = .ok (.iastore, 1) := by decide +kernel
theorem dX12_ordered_65 : decode cX12_ordered 65 = .ok (.aload_n 0, 1) := by decide +kernel
theorem dX12_ordered_66 : decode cX12_ordered 66 = .ok (.dup, 1) := by decide +kernel
theorem dX12_ordered_67 : decode cX12_ordered 67 = .ok (.getfield 271, 3) := by decide +kernel
theorem dX12_ordered_70 : decode cX12_ordered 70 = .ok (.iconst 1, 1) := by decide +kernel
theorem dX12_ordered_71 : decode cX12_ordered 71 = .ok (.iadd, 1) := by decide +kernel
theorem dX12_ordered_72 : decode cX12_ordered 72 = .ok (.putfield 271, 3) := by decide +kernel
theorem dX12_ordered_75 : decode cX12_ordered 75 = .ok (.aload_n 0, 1) := by decide +kernel
theorem dX12_ordered_76 : decode cX12_ordered 76 = .ok (.iload_n 2, 1) := by decide +kernel
theorem dX12_ordered_77 : decode cX12_ordered 77 = .ok (.invokevirtual 274, 3) := by decide +kernel
theorem dX12_ordered_80 : decode cX12_ordered 80 = .ok (.aload_n 0, 1) := by decide +kernel
theorem dX12_ordered_81 : decode cX12_ordered 81 = .ok (.getfield 261, 3) := by decide +kernel
theorem dX12_ordered_84 : decode cX12_ordered 84 = .ok (.iconst 1, 1) := by decide +kernel
theorem dX12_ordered_85 : decode cX12_ordered 85 = .ok (.isub, 1) := by decide +kernel
theorem dX12_ordered_86 : decode cX12_ordered 86 = .ok (.istore_n 3, 1) := by decide +kernel
theorem dX12_ordered_87 : decode cX12_ordered 87 = .ok (.iload_n 3, 1) := by decide +kernel
theorem dX12_ordered_88 : decode cX12_ordered 88 = .ok (.ifCond .lt 24, 3) := by decide +kernel
theorem dX12_ordered_91 : decode cX12_ordered 91 = .ok (.aload_n 0, 1) := by decide +kernel
theorem dX12_ordered_92 : decode cX12_ordered 92 = .ok (.getfield 202, 3) := by decide +kernel
theorem dX12_ordered_95 : decode cX12_ordered 95 = .ok (.iload_n 1, 1) := by decide +kernel
theorem dX12_ordered_96 : decode cX12_ordered 96 = .ok (.aload_n 0, 1) := by decide +kernel
theorem dX12_ordered_97 : decode cX12_ordered 97 = .ok (.getfield 199, 3) := by decide +kernel
theorem dX12_ordered_100 : decode cX12_ordered 100 = .ok (.iload_n 3, 1) := by decide +kernel
theorem dX12_ordered_101 : decode cX12_ordered 101 = .ok (.iaload, 1) := by decide +kernel
theorem dX12_ordered_102 : decode cX12_ordered 102 = .ok (.iastore, 1) := by decide +kernel
theorem dX12_ordered_103 : decode cX12_ordered 103 = .ok (.iinc 1 1, 3) := by decide +kernel
theorem dX12_ordered_106 : decode cX12_ordered 106 = .ok (.iinc 3 (-1), 3) := by decide +kernel
theorem dX12_ordered_109 : decode cX12_ordered 109 = .ok (.goto (-22), 3) := by decide +kernel
theorem dX12_ordered_112 : decode cX12_ordered 112 = .ok (.goto (-71), 3) := by decide +kernel
theorem dX12_ordered_115 : decode cX12_ordered 115 = .ok (.return_, 1) := by decide +kernel
theorem dX12_below_0 : decode cX12_below 0 = .ok (.aload_n 0, 1) := by decide +kernel
theorem dX12_below_1 : decode cX12_below 1 = .ok (.iload_n 1, 1) := by decide +kernel
theorem dX12_below_2 : decode cX12_below 2 = .ok (.invokevirtual 268, 3) := by decide +kernel
theorem dX12_below_5 : decode cX12_below 5 = .ok (.istore_n 3, 1) := by decide +kernel
theorem dX12_below_6 : decode cX12_below 6 = .ok (.iload_n 3, 1) := by decide +kernel
theorem dX12_below_7 : decode cX12_below 7 = .ok (.ifCond .lt 17, 3) := by decide +kernel
theorem dX12_below_10 : decode cX12_below 10 = .ok (.iload_n 3, 1) := by decide +kernel
theorem dX12_below_11 : decode cX12_below 11 = .ok (.iload_n 2, 1) := by decide +kernel
theorem dX12_below_12 : decode cX12_below 12 = .ok (.if_icmp .eq 12, 3) := by decide +kernel
theorem dX12_below_15 : decode cX12_below 15 = .ok (.aload_n 0, 1) := by decide +kernel
theorem dX12_below_16 : decode cX12_below 16 = .ok (.iload_n 3, 1) := by decide +kernel
theorem dX12_below_17 : decode cX12_below 17 = .ok (.invokevirtual 268, 3) := by decide +kernel
theorem dX12_below_20 : decode cX12_below 20 = .ok (.istore_n 3, 1) := by decide +kernel
theorem dX12_below_21 : decode cX12_below 21 = .ok (.goto (-15), 3) := by decide +kernel
theorem dX12_below_24 : decode cX12_below 24 = .ok (.iload_n 3, 1) := by decide +kernel
theorem dX12_below_25 : decode cX12_below 25 = .ok (.iload_n 2, 1) := by decide +kernel
theorem dX12_below_26 : decode cX12_below 26 = .ok (.if_icmp .ne 7, 3) := by decide +kernel
theorem dX12_below_29 : decode cX12_below 29 = .ok (.iconst 1, 1) := by decide +kernel
theorem dX12_below_30 : decode cX12_below 30 = .ok (.goto 4, 3) := by decide +kernel
theorem dX12_below_33 : decode cX12_below 33 = .ok (.iconst 0, 1) := by decide +kernel
theorem dX12_below_34 : decode cX12_below 34 = .ok (.ireturn, 1) := by decide +kernel
-- thrown()I
def f_thrown  (σ : mS) : Option (Int32) := some (σ.2 81)
set_option maxRecDepth 20000 in
set_option maxHeartbeats 4000000 in
theorem K_thrown (l : Launch) (D : mD) (mb : Nat) (σ : mS)  {r : Int32} (h : f_thrown  σ = some r) : Met l yX12_thrown (Cond.code yX12_thrown cX12_thrown 1 (some .int) :: BG) (rM 0 0) (mPc D mb σ []) (mQr (some (.int r))) 0 0 (fun _ => False) := by
  refine Met.ofW (cc := cX12_thrown) (maxL := 1) (ret := (some .int)) (by decide) rfl ?_
  intro p e s m args below meth c s₁ B hml hv
  obtain ⟨rfl, hP, hK⟩ := hv
  have X := mX_of B hml rfl hK
  have hx := X.1
  have hb := X.2.1
  have hown := X.2.2.2.1
  have hts := X.2.2.2.2.1
  have hl := lv_entry (.ref mb :: []) (n := 1) (Nat.le_of_ble_eq_true rfl)
  rw [lg_entry_eq]
  generalize (lg_sl (.ref mb :: []) ++ List.replicate (1 - (lg_sl (.ref mb :: [])).length) Slot.unset).toArray = ls at hl ⊢
  have hl : lv_has ls 1 [(0, .ref mb)] := hl
  show mWr p l e 0 0 s m (Value.ref mb :: []).toArray below meth c (some (.int r)) (F0 m 0 ls [])
  have h : (some (σ.2 81)) = some r := h
  refine lv_aload_n hx hb dX12_thrown_0 rfl (lv_at hl 0 rfl) ?_
  refine mg_thrown X hP dX12_thrown_1 ?_
  obtain rfl := sj h
  exact m_ri X dX12_thrown_4
-- holds(I)Z
def f_holds_14  (y0 : Int32) (σ : mS) : Option (Int32 × mS) := rzw y0 σ
def f_holds (x1 : Int32) (σ : mS) : Option (Int32 × mS) := if x1 ≤ (0:Int32) then (f_holds_14 ((0:Int32)) (sf σ 81 x1)) else (f_holds_14 ((1:Int32)) (sf σ 81 x1))
set_option maxRecDepth 20000 in
set_option maxHeartbeats 4000000 in
theorem N_holds_14 {p : Program} {l : Launch} {e : Env} {s : State} {m : MethodId} {args : Array Value} {below : List Frame} {meth : Method} {c : Code} {D : mD} {mb : Nat}   {y0 : Int32} {σ : mS} {H : Heap} {locs : List Loc} {ls : Array Slot} {q : Int32 × mS} (X : mX p s m args meth c cX12_holds 2 (some .boolean) D) (hP : mP D mb σ H) (hF : mF mb s.heap H locs)  (hl : lv_has ls 2 [(0, .ref mb)]) (h : f_holds_14  y0 σ = some q) : mWw p l e 0 0 s m args below meth c D mb q.2 (some (.int q.1)) H locs (F0 m 14 ls [.int y0]) := by
  have hx := X.1
  have hb := X.2.1
  have hown := X.2.2.2.1
  have hts := X.2.2.2.2.1
  have h : (rzw y0 σ) = some q := h
  obtain ⟨hz, rfl⟩ := rzw_spec h
  exact m_wz X hz hP hF dX12_holds_14
set_option maxRecDepth 20000 in
set_option maxHeartbeats 4000000 in
theorem K_holds (l : Launch) (D : mD) (mb : Nat) (σ : mS) (x1 : Int32) {q : Int32 × mS} (h : f_holds x1 σ = some q) : Met l yX12_holds (Cond.code yX12_holds cX12_holds 2 (some .boolean) :: BG) (rM 0 0) (mPc D mb σ [.int x1]) (mQw D mb q.2 (some (.int q.1))) 0 0 (mReg mb) := by
  refine Met.ofW (cc := cX12_holds) (maxL := 2) (ret := (some .boolean)) (by decide) rfl ?_
  intro p e s m args below meth c s₁ B hml hv
  obtain ⟨rfl, hP, hK⟩ := hv
  have X := mX_of B hml rfl hK
  have hx := X.1
  have hb := X.2.1
  have hown := X.2.2.2.1
  have hts := X.2.2.2.2.1
  have hl := lv_entry (.ref mb :: [.int x1]) (n := 2) (Nat.le_of_ble_eq_true rfl)
  rw [lg_entry_eq]
  generalize (lg_sl (.ref mb :: [.int x1]) ++ List.replicate (2 - (lg_sl (.ref mb :: [.int x1])).length) Slot.unset).toArray = ls at hl ⊢
  have hl : lv_has ls 2 [(0, .ref mb), (1, .int x1)] := hl
  have hF : mF mb s.heap s.heap [] := mF.rf
  show mWw p l e 0 0 s m (Value.ref mb :: [.int x1]).toArray below meth c D mb q.2 (some (.int q.1)) s.heap [] (F0 m 0 ls [])
  have h : (if x1 ≤ (0:Int32) then (f_holds_14 ((0:Int32)) (sf σ 81 x1)) else (f_holds_14 ((1:Int32)) (sf σ 81 x1))) = some q := h
  refine lv_aload_n hx hb dX12_holds_0 rfl (lv_at hl 0 rfl) ?_
  refine lv_iload_n hx hb dX12_holds_1 rfl (lv_at hl 1 rfl) ?_
  refine mp_thrown X hP hF dX12_holds_2 (fun H locs hP hF => ?_)
  refine lv_iload_n hx hb dX12_holds_5 rfl (lv_at hl 1 rfl) ?_
  refine lv_if_le (tgt := 13) hx hb dX12_holds_6 rfl (fun hc => ?_) (fun hc => ?_)
  · have h := ip hc h
    refine lv_iconst (v := (0:Int32)) hx hb dX12_holds_13 (by decide) ?_
    exact N_holds_14 X hP hF (lv_sub hl [0] rfl) h
  · have h := ine hc h
    refine lv_iconst (v := (1:Int32)) hx hb dX12_holds_9 (by decide) ?_
    refine lv_goto (tgt := 14) hx hb dX12_holds_10 rfl ?_
    exact N_holds_14 X hP hF (lv_sub hl [0] rfl) h
theorem cl_holds {p : Program} {l : Launch} {e : Env} {s : State} {m : MethodId} {args : Array Value} {below : List Frame} {meth : Method} {c : Code} {D : mD} {mb : Nat} {H : Heap} {locs : List Loc} {Q : State → Prop} {cc : ByteArray} {pc fR lR nL : Nat} {ls : Array Slot} {rest : List Value} {ret : Option FieldType} {σ : mS} (X : mX p s m args meth c cc nL ret D) (hP : mP D mb σ H) (hF : mF mb s.heap H locs) {x1 : Int32} {q : Int32 × mS} (h : f_holds x1 σ = some q) (hr : 0 + 1 ≤ fR ∧ 8 + (2 + 11) + 0 ≤ lR) (hl : ls.size = nL) (hW : (rest.map fun v => v.category).sum ≤ 8) (hdg : decode cc pc = .ok (.invokevirtual 512, 3)) (kk : ∀ (H1 : Heap) (locs1 : List Loc), mP D mb q.2 H1 → mF mb s.heap H1 locs1 → W p l e (rM fR lR) s m args below meth c H1 locs1 0 0 Q (F0 m (pc + 3) ls (.int q.1 :: rest))) : W p l e (rM fR lR) s m args below meth c H locs 0 0 Q (F0 m pc ls (.int x1 :: .ref mb :: rest)) := m_cw (m_run (n := 1) X (K_holds l D mb σ x1 h) ⟨w_1850, w_1852, w_58, w_1853⟩ (hyX rfl (by decide +kernel)) rfl hr hP hl hW hdg rfl) hF kk
-- in(III)Z
def f_in_15  (y0 : Int32)  : Option (Int32) := rz y0
def f_in_14    : Option (Int32) := f_in_15 ((0:Int32))
def f_in (x1 : Int32) (x2 : Int32) (x3 : Int32)  : Option (Int32) := if x1 < x2 then (f_in_14) else (if x3 < x1 then (f_in_14) else (f_in_15 ((1:Int32))))
set_option maxRecDepth 20000 in
set_option maxHeartbeats 4000000 in
theorem N_in_15 {p : Program} {l : Launch} {e : Env} {s : State} {m : MethodId} {args : Array Value} {below : List Frame} {meth : Method} {c : Code} {D : mD} {mb : Nat}   {y0 : Int32} {σ : mS} {ls : Array Slot} {r : Int32} (X : mX p s m args meth c cX12_in 4 (some .boolean) D) (hP : mP D mb σ s.heap)  (hl : lv_has ls 4 [(0, .ref mb)]) (h : f_in_15  y0 = some r) : mWr p l e 0 0 s m args below meth c (some (.int r)) (F0 m 15 ls [.int y0]) := by
  have hx := X.1
  have hb := X.2.1
  have hown := X.2.2.2.1
  have hts := X.2.2.2.2.1
  have h : (rz y0) = some r := h
  obtain ⟨hz, rfl⟩ := rz_spec h
  exact m_rz X hz dX12_in_15
set_option maxRecDepth 20000 in
set_option maxHeartbeats 4000000 in
theorem N_in_14 {p : Program} {l : Launch} {e : Env} {s : State} {m : MethodId} {args : Array Value} {below : List Frame} {meth : Method} {c : Code} {D : mD} {mb : Nat}    {σ : mS} {ls : Array Slot} {r : Int32} (X : mX p s m args meth c cX12_in 4 (some .boolean) D) (hP : mP D mb σ s.heap)  (hl : lv_has ls 4 [(0, .ref mb)]) (h : f_in_14   = some r) : mWr p l e 0 0 s m args below meth c (some (.int r)) (F0 m 14 ls []) := by
  have hx := X.1
  have hb := X.2.1
  have hown := X.2.2.2.1
  have hts := X.2.2.2.2.1
  have h : (f_in_15 ((0:Int32))) = some r := h
  refine lv_iconst (v := (0:Int32)) hx hb dX12_in_14 (by decide) ?_
  exact N_in_15 X hP (lv_sub hl [0] rfl) h
set_option maxRecDepth 20000 in
set_option maxHeartbeats 4000000 in
theorem K_in (l : Launch) (D : mD) (mb : Nat) (σ : mS) (x1 : Int32) (x2 : Int32) (x3 : Int32) {r : Int32} (h : f_in x1 x2 x3 = some r) : Met l yX12_in (Cond.code yX12_in cX12_in 4 (some .boolean) :: BG) (rM 0 0) (mPc D mb σ [.int x1, .int x2, .int x3]) (mQr (some (.int r))) 0 0 (fun _ => False) := by
  refine Met.ofW (cc := cX12_in) (maxL := 4) (ret := (some .boolean)) (by decide) rfl ?_
  intro p e s m args below meth c s₁ B hml hv
  obtain ⟨rfl, hP, hK⟩ := hv
  have X := mX_of B hml rfl hK
  have hx := X.1
  have hb := X.2.1
  have hown := X.2.2.2.1
  have hts := X.2.2.2.2.1
  have hl := lv_entry (.ref mb :: [.int x1, .int x2, .int x3]) (n := 4) (Nat.le_of_ble_eq_true rfl)
  rw [lg_entry_eq]
  generalize (lg_sl (.ref mb :: [.int x1, .int x2, .int x3]) ++ List.replicate (4 - (lg_sl (.ref mb :: [.int x1, .int x2, .int x3])).length) Slot.unset).toArray = ls at hl ⊢
  have hl : lv_has ls 4 [(0, .ref mb), (1, .int x1), (2, .int x2), (3, .int x3)] := hl
  show mWr p l e 0 0 s m (Value.ref mb :: [.int x1, .int x2, .int x3]).toArray below meth c (some (.int r)) (F0 m 0 ls [])
  have h : (if x1 < x2 then (f_in_14) else (if x3 < x1 then (f_in_14) else (f_in_15 ((1:Int32))))) = some r := h
  refine lv_iload_n hx hb dX12_in_0 rfl (lv_at hl 1 rfl) ?_
  refine lv_iload_n hx hb dX12_in_1 rfl (lv_at hl 2 rfl) ?_
  refine lv_icmp_lt (tgt := 14) hx hb dX12_in_2 rfl (fun hc => ?_) (fun hc => ?_)
  · have h := ip hc h
    exact N_in_14 X hP (lv_sub hl [0] rfl) h
  · have h := ine hc h
    refine lv_iload_n hx hb dX12_in_5 rfl (lv_at hl 1 rfl) ?_
    refine lv_iload_n hx hb dX12_in_6 rfl (lv_at hl 3 rfl) ?_
    refine lv_icmp_gt (tgt := 14) hx hb dX12_in_7 rfl (fun hc => ?_) (fun hc => ?_)
    · have h := ip hc h
      exact N_in_14 X hP (lv_sub hl [0] rfl) h
    · have h := ine hc h
      refine lv_iconst (v := (1:Int32)) hx hb dX12_in_10 (by decide) ?_
      refine lv_goto (tgt := 15) hx hb dX12_in_11 rfl ?_
      exact N_in_15 X hP (lv_sub hl [0] rfl) h
theorem cl_in {p : Program} {l : Launch} {e : Env} {s : State} {m : MethodId} {args : Array Value} {below : List Frame} {meth : Method} {c : Code} {D : mD} {mb : Nat} {H : Heap} {locs : List Loc} {Q : State → Prop} {cc : ByteArray} {pc fR lR nL : Nat} {ls : Array Slot} {rest : List Value} {ret : Option FieldType} {σ : mS} (X : mX p s m args meth c cc nL ret D) (hP : mP D mb σ H) {x1 : Int32} {x2 : Int32} {x3 : Int32} {r : Int32} (h : f_in x1 x2 x3 = some r) (hr : 0 + 1 ≤ fR ∧ 8 + (4 + 11) + 0 ≤ lR) (hl : ls.size = nL) (hW : (rest.map fun v => v.category).sum ≤ 8) (hdg : decode cc pc = .ok (.invokevirtual 230, 3)) (kk : W p l e (rM fR lR) s m args below meth c H locs 0 0 Q (F0 m (pc + 3) ls (.int r :: rest))) : W p l e (rM fR lR) s m args below meth c H locs 0 0 Q (F0 m pc ls (.int x3 :: .int x2 :: .int x1 :: .ref mb :: rest)) := m_cr (m_run (n := 3) X (K_in l D mb σ x1 x2 x3 h) ⟨w_1846, w_1848, w_57, w_1849⟩ (hyX rfl (by decide +kernel)) rfl hr hP hl hW hdg rfl) kk
-- bit(II)Z
def f_bit_14  (y0 : Int32)  : Option (Int32) := rz y0
def f_bit (x1 : Int32) (x2 : Int32)  : Option (Int32) := if ((x1 >>> (x2 &&& 31)) &&& (1:Int32)) = (1:Int32) then (f_bit_14 ((1:Int32))) else (f_bit_14 ((0:Int32)))
set_option maxRecDepth 20000 in
set_option maxHeartbeats 4000000 in
theorem N_bit_14 {p : Program} {l : Launch} {e : Env} {s : State} {m : MethodId} {args : Array Value} {below : List Frame} {meth : Method} {c : Code} {D : mD} {mb : Nat}   {y0 : Int32} {σ : mS} {ls : Array Slot} {r : Int32} (X : mX p s m args meth c cX12_bit 3 (some .boolean) D) (hP : mP D mb σ s.heap)  (hl : lv_has ls 3 [(0, .ref mb)]) (h : f_bit_14  y0 = some r) : mWr p l e 0 0 s m args below meth c (some (.int r)) (F0 m 14 ls [.int y0]) := by
  have hx := X.1
  have hb := X.2.1
  have hown := X.2.2.2.1
  have hts := X.2.2.2.2.1
  have h : (rz y0) = some r := h
  obtain ⟨hz, rfl⟩ := rz_spec h
  exact m_rz X hz dX12_bit_14
set_option maxRecDepth 20000 in
set_option maxHeartbeats 4000000 in
theorem K_bit (l : Launch) (D : mD) (mb : Nat) (σ : mS) (x1 : Int32) (x2 : Int32) {r : Int32} (h : f_bit x1 x2 = some r) : Met l yX12_bit (Cond.code yX12_bit cX12_bit 3 (some .boolean) :: BG) (rM 0 0) (mPc D mb σ [.int x1, .int x2]) (mQr (some (.int r))) 0 0 (fun _ => False) := by
  refine Met.ofW (cc := cX12_bit) (maxL := 3) (ret := (some .boolean)) (by decide) rfl ?_
  intro p e s m args below meth c s₁ B hml hv
  obtain ⟨rfl, hP, hK⟩ := hv
  have X := mX_of B hml rfl hK
  have hx := X.1
  have hb := X.2.1
  have hown := X.2.2.2.1
  have hts := X.2.2.2.2.1
  have hl := lv_entry (.ref mb :: [.int x1, .int x2]) (n := 3) (Nat.le_of_ble_eq_true rfl)
  rw [lg_entry_eq]
  generalize (lg_sl (.ref mb :: [.int x1, .int x2]) ++ List.replicate (3 - (lg_sl (.ref mb :: [.int x1, .int x2])).length) Slot.unset).toArray = ls at hl ⊢
  have hl : lv_has ls 3 [(0, .ref mb), (1, .int x1), (2, .int x2)] := hl
  show mWr p l e 0 0 s m (Value.ref mb :: [.int x1, .int x2]).toArray below meth c (some (.int r)) (F0 m 0 ls [])
  have h : (if ((x1 >>> (x2 &&& 31)) &&& (1:Int32)) = (1:Int32) then (f_bit_14 ((1:Int32))) else (f_bit_14 ((0:Int32)))) = some r := h
  refine lv_iload_n hx hb dX12_bit_0 rfl (lv_at hl 1 rfl) ?_
  refine lv_iload_n hx hb dX12_bit_1 rfl (lv_at hl 2 rfl) ?_
  refine lv_ishr hx hb dX12_bit_2 ?_
  refine lv_iconst (v := (1:Int32)) hx hb dX12_bit_3 (by decide) ?_
  refine lv_iand hx hb dX12_bit_4 ?_
  refine lv_iconst (v := (1:Int32)) hx hb dX12_bit_5 (by decide) ?_
  refine lv_icmp_ne (tgt := 13) hx hb dX12_bit_6 rfl (fun hc => ?_) (fun hc => ?_)
  · have h := ine hc h
    refine lv_iconst (v := (0:Int32)) hx hb dX12_bit_13 (by decide) ?_
    exact N_bit_14 X hP (lv_sub hl [0] rfl) h
  · have h := ip hc h
    refine lv_iconst (v := (1:Int32)) hx hb dX12_bit_9 (by decide) ?_
    refine lv_goto (tgt := 14) hx hb dX12_bit_10 rfl ?_
    exact N_bit_14 X hP (lv_sub hl [0] rfl) h
theorem cl_bit {p : Program} {l : Launch} {e : Env} {s : State} {m : MethodId} {args : Array Value} {below : List Frame} {meth : Method} {c : Code} {D : mD} {mb : Nat} {H : Heap} {locs : List Loc} {Q : State → Prop} {cc : ByteArray} {pc fR lR nL : Nat} {ls : Array Slot} {rest : List Value} {ret : Option FieldType} {σ : mS} (X : mX p s m args meth c cc nL ret D) (hP : mP D mb σ H) {x1 : Int32} {x2 : Int32} {r : Int32} (h : f_bit x1 x2 = some r) (hr : 0 + 1 ≤ fR ∧ 8 + (3 + 11) + 0 ≤ lR) (hl : ls.size = nL) (hW : (rest.map fun v => v.category).sum ≤ 8) (hdg : decode cc pc = .ok (.invokevirtual 288, 3)) (kk : W p l e (rM fR lR) s m args below meth c H locs 0 0 Q (F0 m (pc + 3) ls (.int r :: rest))) : W p l e (rM fR lR) s m args below meth c H locs 0 0 Q (F0 m pc ls (.int x2 :: .int x1 :: .ref mb :: rest)) := m_cr (m_run (n := 2) X (K_bit l D mb σ x1 x2 h) ⟨w_1906, w_1908, w_70, w_1909⟩ (hyX rfl (by decide +kernel)) rfl hr hP hl hW hdg rfl) kk
-- isElement(I)Z
def f_isElement (x1 : Int32) (σ : mS) : Option (Int32) := (f_in (x1) ((0:Int32)) (((σ.2 13) - (1:Int32)))).bind (fun v1 => rz v1)
set_option maxRecDepth 20000 in
set_option maxHeartbeats 4000000 in
theorem K_isElement (l : Launch) (D : mD) (mb : Nat) (σ : mS) (x1 : Int32) {r : Int32} (h : f_isElement x1 σ = some r) : Met l yX12_isElement (Cond.code yX12_isElement cX12_isElement 2 (some .boolean) :: BG) (rM 1 23) (mPc D mb σ [.int x1]) (mQr (some (.int r))) 0 0 (fun _ => False) := by
  refine Met.ofW (cc := cX12_isElement) (maxL := 2) (ret := (some .boolean)) (by decide) rfl ?_
  intro p e s m args below meth c s₁ B hml hv
  obtain ⟨rfl, hP, hK⟩ := hv
  have X := mX_of B hml rfl hK
  have hx := X.1
  have hb := X.2.1
  have hown := X.2.2.2.1
  have hts := X.2.2.2.2.1
  have hl := lv_entry (.ref mb :: [.int x1]) (n := 2) (Nat.le_of_ble_eq_true rfl)
  rw [lg_entry_eq]
  generalize (lg_sl (.ref mb :: [.int x1]) ++ List.replicate (2 - (lg_sl (.ref mb :: [.int x1])).length) Slot.unset).toArray = ls at hl ⊢
  have hl : lv_has ls 2 [(0, .ref mb), (1, .int x1)] := hl
  show mWr p l e 1 23 s m (Value.ref mb :: [.int x1]).toArray below meth c (some (.int r)) (F0 m 0 ls [])
  have h : ((f_in (x1) ((0:Int32)) (((σ.2 13) - (1:Int32)))).bind (fun v1 => rz v1)) = some r := h
  refine lv_aload_n hx hb dX12_isElement_0 rfl (lv_at hl 0 rfl) ?_
  refine lv_iload_n hx hb dX12_isElement_1 rfl (lv_at hl 1 rfl) ?_
  refine lv_iconst (v := (0:Int32)) hx hb dX12_isElement_2 (by decide) ?_
  refine lv_aload_n hx hb dX12_isElement_3 rfl (lv_at hl 0 rfl) ?_
  refine mg_made X hP dX12_isElement_4 ?_
  refine lv_iconst (v := (1:Int32)) hx hb dX12_isElement_7 (by decide) ?_
  refine lv_isub hx hb dX12_isElement_8 ?_
  obtain ⟨v1, hv1, h⟩ := ob h
  refine cl_in X hP hv1 ⟨Nat.le_of_ble_eq_true rfl, Nat.le_of_ble_eq_true rfl⟩ hl.1 (Nat.le_of_ble_eq_true rfl) dX12_isElement_9 ?_
  obtain ⟨hz, rfl⟩ := rz_spec h
  exact m_rz X hz dX12_isElement_12
theorem cl_isElement {p : Program} {l : Launch} {e : Env} {s : State} {m : MethodId} {args : Array Value} {below : List Frame} {meth : Method} {c : Code} {D : mD} {mb : Nat} {H : Heap} {locs : List Loc} {Q : State → Prop} {cc : ByteArray} {pc fR lR nL : Nat} {ls : Array Slot} {rest : List Value} {ret : Option FieldType} {σ : mS} (X : mX p s m args meth c cc nL ret D) (hP : mP D mb σ H) {x1 : Int32} {r : Int32} (h : f_isElement x1 σ = some r) (hr : 1 + 1 ≤ fR ∧ 8 + (2 + 11) + 23 ≤ lR) (hl : ls.size = nL) (hW : (rest.map fun v => v.category).sum ≤ 8) (hdg : decode cc pc = .ok (.invokevirtual 234, 3)) (kk : W p l e (rM fR lR) s m args below meth c H locs 0 0 Q (F0 m (pc + 3) ls (.int r :: rest))) : W p l e (rM fR lR) s m args below meth c H locs 0 0 Q (F0 m pc ls (.int x1 :: .ref mb :: rest)) := m_cr (m_run (n := 1) X (K_isElement l D mb σ x1 h) ⟨w_1858, w_1860, w_59, w_1861⟩ (hyX rfl (by decide +kernel)) rfl hr hP hl hW hdg rfl) kk
-- isTree(I)Z
def f_isTree_28  (y0 : Int32) (σ : mS) : Option (Int32) := rz y0
def f_isTree_23   (σ : mS) : Option (Int32) := f_isTree_28 ((1:Int32)) σ
def f_isTree_27   (σ : mS) : Option (Int32) := f_isTree_28 ((0:Int32)) σ
def f_isTree (x1 : Int32) (σ : mS) : Option (Int32) := if x1 = ((-1):Int32) then (f_isTree_23 σ) else ((f_isElement (x1) σ).bind (fun v1 => if v1 = (0:Int32) then (f_isTree_27 σ) else ((rd σ 8 x1).bind (fun v2 => if v2 = (1:Int32) then (f_isTree_23 σ) else (f_isTree_27 σ)))))
set_option maxRecDepth 20000 in
set_option maxHeartbeats 4000000 in
theorem N_isTree_28 {p : Program} {l : Launch} {e : Env} {s : State} {m : MethodId} {args : Array Value} {below : List Frame} {meth : Method} {c : Code} {D : mD} {mb : Nat}   {y0 : Int32} {σ : mS} {ls : Array Slot} {r : Int32} (X : mX p s m args meth c cX12_isTree 2 (some .boolean) D) (hP : mP D mb σ s.heap)  (hl : lv_has ls 2 [(0, .ref mb)]) (h : f_isTree_28  y0 σ = some r) : mWr p l e 2 44 s m args below meth c (some (.int r)) (F0 m 28 ls [.int y0]) := by
  have hx := X.1
  have hb := X.2.1
  have hown := X.2.2.2.1
  have hts := X.2.2.2.2.1
  have h : (rz y0) = some r := h
  obtain ⟨hz, rfl⟩ := rz_spec h
  exact m_rz X hz dX12_isTree_28
set_option maxRecDepth 20000 in
set_option maxHeartbeats 4000000 in
theorem N_isTree_23 {p : Program} {l : Launch} {e : Env} {s : State} {m : MethodId} {args : Array Value} {below : List Frame} {meth : Method} {c : Code} {D : mD} {mb : Nat}    {σ : mS} {ls : Array Slot} {r : Int32} (X : mX p s m args meth c cX12_isTree 2 (some .boolean) D) (hP : mP D mb σ s.heap)  (hl : lv_has ls 2 [(0, .ref mb)]) (h : f_isTree_23   σ = some r) : mWr p l e 2 44 s m args below meth c (some (.int r)) (F0 m 23 ls []) := by
  have hx := X.1
  have hb := X.2.1
  have hown := X.2.2.2.1
  have hts := X.2.2.2.2.1
  have h : (f_isTree_28 ((1:Int32)) σ) = some r := h
  refine lv_iconst (v := (1:Int32)) hx hb dX12_isTree_23 (by decide) ?_
  refine lv_goto (tgt := 28) hx hb dX12_isTree_24 rfl ?_
  exact N_isTree_28 X hP (lv_sub hl [0] rfl) h
set_option maxRecDepth 20000 in
set_option maxHeartbeats 4000000 in
theorem N_isTree_27 {p : Program} {l : Launch} {e : Env} {s : State} {m : MethodId} {args : Array Value} {below : List Frame} {meth : Method} {c : Code} {D : mD} {mb : Nat}    {σ : mS} {ls : Array Slot} {r : Int32} (X : mX p s m args meth c cX12_isTree 2 (some .boolean) D) (hP : mP D mb σ s.heap)  (hl : lv_has ls 2 [(0, .ref mb)]) (h : f_isTree_27   σ = some r) : mWr p l e 2 44 s m args below meth c (some (.int r)) (F0 m 27 ls []) := by
  have hx := X.1
  have hb := X.2.1
  have hown := X.2.2.2.1
  have hts := X.2.2.2.2.1
  have h : (f_isTree_28 ((0:Int32)) σ) = some r := h
  refine lv_iconst (v := (0:Int32)) hx hb dX12_isTree_27 (by decide) ?_
  exact N_isTree_28 X hP (lv_sub hl [0] rfl) h
set_option maxRecDepth 20000 in
set_option maxHeartbeats 4000000 in
theorem K_isTree (l : Launch) (D : mD) (mb : Nat) (σ : mS) (x1 : Int32) {r : Int32} (h : f_isTree x1 σ = some r) : Met l yX12_isTree (Cond.code yX12_isTree cX12_isTree 2 (some .boolean) :: BG) (rM 2 44) (mPc D mb σ [.int x1]) (mQr (some (.int r))) 0 0 (fun _ => False) := by
  refine Met.ofW (cc := cX12_isTree) (maxL := 2) (ret := (some .boolean)) (by decide) rfl ?_
  intro p e s m args below meth c s₁ B hml hv
  obtain ⟨rfl, hP, hK⟩ := hv
  have X := mX_of B hml rfl hK
  have hx := X.1
  have hb := X.2.1
  have hown := X.2.2.2.1
  have hts := X.2.2.2.2.1
  have hl := lv_entry (.ref mb :: [.int x1]) (n := 2) (Nat.le_of_ble_eq_true rfl)
  rw [lg_entry_eq]
  generalize (lg_sl (.ref mb :: [.int x1]) ++ List.replicate (2 - (lg_sl (.ref mb :: [.int x1])).length) Slot.unset).toArray = ls at hl ⊢
  have hl : lv_has ls 2 [(0, .ref mb), (1, .int x1)] := hl
  show mWr p l e 2 44 s m (Value.ref mb :: [.int x1]).toArray below meth c (some (.int r)) (F0 m 0 ls [])
  have h : (if x1 = ((-1):Int32) then (f_isTree_23 σ) else ((f_isElement (x1) σ).bind (fun v1 => if v1 = (0:Int32) then (f_isTree_27 σ) else ((rd σ 8 x1).bind (fun v2 => if v2 = (1:Int32) then (f_isTree_23 σ) else (f_isTree_27 σ)))))) = some r := h
  refine lv_iload_n hx hb dX12_isTree_0 rfl (lv_at hl 1 rfl) ?_
  refine lv_iconst (v := ((-1):Int32)) hx hb dX12_isTree_1 (by decide) ?_
  refine lv_icmp_eq (tgt := 23) hx hb dX12_isTree_2 rfl (fun hc => ?_) (fun hc => ?_)
  · have h := ip hc h
    exact N_isTree_23 X hP (lv_sub hl [0] rfl) h
  · have h := ine hc h
    refine lv_aload_n hx hb dX12_isTree_5 rfl (lv_at hl 0 rfl) ?_
    refine lv_iload_n hx hb dX12_isTree_6 rfl (lv_at hl 1 rfl) ?_
    obtain ⟨v1, hv1, h⟩ := ob h
    refine cl_isElement X hP hv1 ⟨Nat.le_of_ble_eq_true rfl, Nat.le_of_ble_eq_true rfl⟩ hl.1 (Nat.le_of_ble_eq_true rfl) dX12_isTree_7 ?_
    refine lv_if_eq (tgt := 27) hx hb dX12_isTree_10 rfl (fun hc => ?_) (fun hc => ?_)
    · have h := ip hc h
      exact N_isTree_27 X hP (lv_sub hl [0] rfl) h
    · have h := ine hc h
      refine lv_aload_n hx hb dX12_isTree_13 rfl (lv_at hl 0 rfl) ?_
      refine mg_shadow X hP dX12_isTree_14 ?_
      refine lv_iload_n hx hb dX12_isTree_17 rfl (lv_at hl 1 rfl) ?_
      obtain ⟨v2, hv2, h⟩ := ob h
      refine m_ald X hP hv2 dX12_isTree_18 ?_
      refine lv_iconst (v := (1:Int32)) hx hb dX12_isTree_19 (by decide) ?_
      refine lv_icmp_ne (tgt := 27) hx hb dX12_isTree_20 rfl (fun hc => ?_) (fun hc => ?_)
      · have h := ine hc h
        exact N_isTree_27 X hP (lv_sub hl [0] rfl) h
      · have h := ip hc h
        exact N_isTree_23 X hP (lv_sub hl [0] rfl) h
theorem cl_isTree {p : Program} {l : Launch} {e : Env} {s : State} {m : MethodId} {args : Array Value} {below : List Frame} {meth : Method} {c : Code} {D : mD} {mb : Nat} {H : Heap} {locs : List Loc} {Q : State → Prop} {cc : ByteArray} {pc fR lR nL : Nat} {ls : Array Slot} {rest : List Value} {ret : Option FieldType} {σ : mS} (X : mX p s m args meth c cc nL ret D) (hP : mP D mb σ H) {x1 : Int32} {r : Int32} (h : f_isTree x1 σ = some r) (hr : 2 + 1 ≤ fR ∧ 8 + (2 + 11) + 44 ≤ lR) (hl : ls.size = nL) (hW : (rest.map fun v => v.category).sum ≤ 8) (hdg : decode cc pc = .ok (.invokevirtual 537, 3)) (kk : W p l e (rM fR lR) s m args below meth c H locs 0 0 Q (F0 m (pc + 3) ls (.int r :: rest))) : W p l e (rM fR lR) s m args below meth c H locs 0 0 Q (F0 m pc ls (.int x1 :: .ref mb :: rest)) := m_cr (m_run (n := 1) X (K_isTree l D mb σ x1 h) ⟨w_2023, w_2025, w_86, w_2026⟩ (hyX rfl (by decide +kernel)) rfl hr hP hl hW hdg rfl) kk
-- root(I)I
def f_root_2  : Nat → Int32 → mS → Option (Int32)
  | 0, _, _ => none
  | n + 1, x2, σ => (rd σ 6 x2).bind (fun v1 => if v1 < (0:Int32) then (some x2) else ((rd σ 6 x2).bind (fun v2 => f_root_2 n (v2) σ)))
def f_root (x1 : Int32) (σ : mS) : Option (Int32) := f_root_2 4000 (x1) σ
set_option maxRecDepth 20000 in
set_option maxHeartbeats 4000000 in
theorem N_root_2 {p : Program} {l : Launch} {e : Env} {s : State} {m : MethodId} {args : Array Value} {below : List Frame} {meth : Method} {c : Code} {D : mD} {mb : Nat}  {n : Nat} {x2 : Int32} {σ : mS} {ls : Array Slot} {r : Int32} (X : mX p s m args meth c cX12_root 3 (some .int) D) (hP : mP D mb σ s.heap)  (hl : lv_has ls 3 [(0, .ref mb), (2, .int x2)]) (h : f_root_2  n x2 σ = some r) : mWr p l e 0 0 s m args below meth c (some (.int r)) (F0 m 2 ls []) := by
  have hx := X.1
  have hb := X.2.1
  have hown := X.2.2.2.1
  have hts := X.2.2.2.2.1
  induction n generalizing x2 ls with
  | zero => exact absurd (show none = some r from h) (by simp)
  | succ n ih =>
    have h : ((rd σ 6 x2).bind (fun v1 => if v1 < (0:Int32) then (some x2) else ((rd σ 6 x2).bind (fun v2 => f_root_2 n (v2) σ)))) = some r := h
    refine lv_aload_n hx hb dX12_root_2 rfl (lv_at hl 0 rfl) ?_
    refine mg_parent X hP dX12_root_3 ?_
    refine lv_iload_n hx hb dX12_root_6 rfl (lv_at hl 1 rfl) ?_
    obtain ⟨v1, hv1, h⟩ := ob h
    refine m_ald X hP hv1 dX12_root_7 ?_
    refine lv_if_lt (tgt := 21) hx hb dX12_root_8 rfl (fun hc => ?_) (fun hc => ?_)
    · have h := ip hc h
      refine lv_iload_n hx hb dX12_root_21 rfl (lv_at hl 1 rfl) ?_
      obtain rfl := sj h
      exact m_ri X dX12_root_22
    · have h := ine hc h
      refine lv_aload_n hx hb dX12_root_11 rfl (lv_at hl 0 rfl) ?_
      refine mg_parent X hP dX12_root_12 ?_
      refine lv_iload_n hx hb dX12_root_15 rfl (lv_at hl 1 rfl) ?_
      obtain ⟨v2, hv2, h⟩ := ob h
      refine m_ald X hP hv2 dX12_root_16 ?_
      refine lv_istore_n hx hb dX12_root_17 rfl hl (Nat.le_of_ble_eq_true rfl) rfl (fun ls (hl : lv_has ls 3 [(2, .int v2), (0, .ref mb)]) => ?_)
      refine lv_goto (tgt := 2) hx hb dX12_root_18 rfl ?_
      exact ih (lv_sub hl [1, 0] rfl) h
set_option maxRecDepth 20000 in
set_option maxHeartbeats 4000000 in
theorem K_root (l : Launch) (D : mD) (mb : Nat) (σ : mS) (x1 : Int32) {r : Int32} (h : f_root x1 σ = some r) : Met l yX12_root (Cond.code yX12_root cX12_root 3 (some .int) :: BG) (rM 0 0) (mPc D mb σ [.int x1]) (mQr (some (.int r))) 0 0 (fun _ => False) := by
  refine Met.ofW (cc := cX12_root) (maxL := 3) (ret := (some .int)) (by decide) rfl ?_
  intro p e s m args below meth c s₁ B hml hv
  obtain ⟨rfl, hP, hK⟩ := hv
  have X := mX_of B hml rfl hK
  have hx := X.1
  have hb := X.2.1
  have hown := X.2.2.2.1
  have hts := X.2.2.2.2.1
  have hl := lv_entry (.ref mb :: [.int x1]) (n := 3) (Nat.le_of_ble_eq_true rfl)
  rw [lg_entry_eq]
  generalize (lg_sl (.ref mb :: [.int x1]) ++ List.replicate (3 - (lg_sl (.ref mb :: [.int x1])).length) Slot.unset).toArray = ls at hl ⊢
  have hl : lv_has ls 3 [(0, .ref mb), (1, .int x1)] := hl
  show mWr p l e 0 0 s m (Value.ref mb :: [.int x1]).toArray below meth c (some (.int r)) (F0 m 0 ls [])
  have h : (f_root_2 4000 (x1) σ) = some r := h
  refine lv_iload_n hx hb dX12_root_0 rfl (lv_at hl 1 rfl) ?_
  refine lv_istore_n hx hb dX12_root_1 rfl hl (Nat.le_of_ble_eq_true rfl) rfl (fun ls (hl : lv_has ls 3 [(2, .int x1), (0, .ref mb), (1, .int x1)]) => ?_)
  exact N_root_2 X hP (lv_sub hl [1, 0] rfl) h
theorem cl_root {p : Program} {l : Launch} {e : Env} {s : State} {m : MethodId} {args : Array Value} {below : List Frame} {meth : Method} {c : Code} {D : mD} {mb : Nat} {H : Heap} {locs : List Loc} {Q : State → Prop} {cc : ByteArray} {pc fR lR nL : Nat} {ls : Array Slot} {rest : List Value} {ret : Option FieldType} {σ : mS} (X : mX p s m args meth c cc nL ret D) (hP : mP D mb σ H) {x1 : Int32} {r : Int32} (h : f_root x1 σ = some r) (hr : 0 + 1 ≤ fR ∧ 8 + (3 + 11) + 0 ≤ lR) (hl : ls.size = nL) (hW : (rest.map fun v => v.category).sum ≤ 8) (hdg : decode cc pc = .ok (.invokevirtual 238, 3)) (kk : W p l e (rM fR lR) s m args below meth c H locs 0 0 Q (F0 m (pc + 3) ls (.int r :: rest))) : W p l e (rM fR lR) s m args below meth c H locs 0 0 Q (F0 m pc ls (.int x1 :: .ref mb :: rest)) := m_cr (m_run (n := 1) X (K_root l D mb σ x1 h) ⟨w_1878, w_1880, w_64, w_1881⟩ (hyX rfl (by decide +kernel)) rfl hr hP hl hW hdg rfl) kk
-- treeOf(I)I
def f_treeOf_34  (y0 : Int32) (σ : mS) : Option (Int32) := some y0
def f_treeOf (x1 : Int32) (σ : mS) : Option (Int32) := (f_root (x1) σ).bind (fun v1 => if v1 = (0:Int32) then (f_treeOf_34 (((-1):Int32)) σ) else ((rd σ 7 v1).bind (fun v2 => if v2 < (0:Int32) then (f_treeOf_34 (((-2):Int32)) σ) else ((rd σ 7 v1).bind (fun v3 => f_treeOf_34 (v3) σ)))))
set_option maxRecDepth 20000 in
set_option maxHeartbeats 4000000 in
theorem N_treeOf_34 {p : Program} {l : Launch} {e : Env} {s : State} {m : MethodId} {args : Array Value} {below : List Frame} {meth : Method} {c : Code} {D : mD} {mb : Nat}   {y0 : Int32} {σ : mS} {ls : Array Slot} {r : Int32} (X : mX p s m args meth c cX12_treeOf 3 (some .int) D) (hP : mP D mb σ s.heap)  (hl : lv_has ls 3 [(0, .ref mb)]) (h : f_treeOf_34  y0 σ = some r) : mWr p l e 1 22 s m args below meth c (some (.int r)) (F0 m 34 ls [.int y0]) := by
  have hx := X.1
  have hb := X.2.1
  have hown := X.2.2.2.1
  have hts := X.2.2.2.2.1
  have h : (some y0) = some r := h
  obtain rfl := sj h
  exact m_ri X dX12_treeOf_34
set_option maxRecDepth 20000 in
set_option maxHeartbeats 4000000 in
theorem K_treeOf (l : Launch) (D : mD) (mb : Nat) (σ : mS) (x1 : Int32) {r : Int32} (h : f_treeOf x1 σ = some r) : Met l yX12_treeOf (Cond.code yX12_treeOf cX12_treeOf 3 (some .int) :: BG) (rM 1 22) (mPc D mb σ [.int x1]) (mQr (some (.int r))) 0 0 (fun _ => False) := by
  refine Met.ofW (cc := cX12_treeOf) (maxL := 3) (ret := (some .int)) (by decide) rfl ?_
  intro p e s m args below meth c s₁ B hml hv
  obtain ⟨rfl, hP, hK⟩ := hv
  have X := mX_of B hml rfl hK
  have hx := X.1
  have hb := X.2.1
  have hown := X.2.2.2.1
  have hts := X.2.2.2.2.1
  have hl := lv_entry (.ref mb :: [.int x1]) (n := 3) (Nat.le_of_ble_eq_true rfl)
  rw [lg_entry_eq]
  generalize (lg_sl (.ref mb :: [.int x1]) ++ List.replicate (3 - (lg_sl (.ref mb :: [.int x1])).length) Slot.unset).toArray = ls at hl ⊢
  have hl : lv_has ls 3 [(0, .ref mb), (1, .int x1)] := hl
  show mWr p l e 1 22 s m (Value.ref mb :: [.int x1]).toArray below meth c (some (.int r)) (F0 m 0 ls [])
  have h : ((f_root (x1) σ).bind (fun v1 => if v1 = (0:Int32) then (f_treeOf_34 (((-1):Int32)) σ) else ((rd σ 7 v1).bind (fun v2 => if v2 < (0:Int32) then (f_treeOf_34 (((-2):Int32)) σ) else ((rd σ 7 v1).bind (fun v3 => f_treeOf_34 (v3) σ)))))) = some r := h
  refine lv_aload_n hx hb dX12_treeOf_0 rfl (lv_at hl 0 rfl) ?_
  refine lv_iload_n hx hb dX12_treeOf_1 rfl (lv_at hl 1 rfl) ?_
  obtain ⟨v1, hv1, h⟩ := ob h
  refine cl_root X hP hv1 ⟨Nat.le_of_ble_eq_true rfl, Nat.le_of_ble_eq_true rfl⟩ hl.1 (Nat.le_of_ble_eq_true rfl) dX12_treeOf_2 ?_
  refine lv_istore_n hx hb dX12_treeOf_5 rfl hl (Nat.le_of_ble_eq_true rfl) rfl (fun ls (hl : lv_has ls 3 [(2, .int v1), (0, .ref mb), (1, .int x1)]) => ?_)
  refine lv_iload_n hx hb dX12_treeOf_6 rfl (lv_at hl 0 rfl) ?_
  refine lv_if_ne (tgt := 14) hx hb dX12_treeOf_7 rfl (fun hc => ?_) (fun hc => ?_)
  · have h := ine hc h
    refine lv_aload_n hx hb dX12_treeOf_14 rfl (lv_at hl 1 rfl) ?_
    refine mg_host X hP dX12_treeOf_15 ?_
    refine lv_iload_n hx hb dX12_treeOf_18 rfl (lv_at hl 0 rfl) ?_
    obtain ⟨v2, hv2, h⟩ := ob h
    refine m_ald X hP hv2 dX12_treeOf_19 ?_
    refine lv_if_lt (tgt := 32) hx hb dX12_treeOf_20 rfl (fun hc => ?_) (fun hc => ?_)
    · have h := ip hc h
      refine lv_bipush (v := ((-2):Int32)) hx hb dX12_treeOf_32 (by decide) ?_
      exact N_treeOf_34 X hP (lv_sub hl [1] rfl) h
    · have h := ine hc h
      refine lv_aload_n hx hb dX12_treeOf_23 rfl (lv_at hl 1 rfl) ?_
      refine mg_host X hP dX12_treeOf_24 ?_
      refine lv_iload_n hx hb dX12_treeOf_27 rfl (lv_at hl 0 rfl) ?_
      obtain ⟨v3, hv3, h⟩ := ob h
      refine m_ald X hP hv3 dX12_treeOf_28 ?_
      refine lv_goto (tgt := 34) hx hb dX12_treeOf_29 rfl ?_
      exact N_treeOf_34 X hP (lv_sub hl [1] rfl) h
  · have h := ip hc h
    refine lv_iconst (v := ((-1):Int32)) hx hb dX12_treeOf_10 (by decide) ?_
    refine lv_goto (tgt := 34) hx hb dX12_treeOf_11 rfl ?_
    exact N_treeOf_34 X hP (lv_sub hl [1] rfl) h
theorem cl_treeOf {p : Program} {l : Launch} {e : Env} {s : State} {m : MethodId} {args : Array Value} {below : List Frame} {meth : Method} {c : Code} {D : mD} {mb : Nat} {H : Heap} {locs : List Loc} {Q : State → Prop} {cc : ByteArray} {pc fR lR nL : Nat} {ls : Array Slot} {rest : List Value} {ret : Option FieldType} {σ : mS} (X : mX p s m args meth c cc nL ret D) (hP : mP D mb σ H) {x1 : Int32} {r : Int32} (h : f_treeOf x1 σ = some r) (hr : 1 + 1 ≤ fR ∧ 8 + (3 + 11) + 22 ≤ lR) (hl : ls.size = nL) (hW : (rest.map fun v => v.category).sum ≤ 8) (hdg : decode cc pc = .ok (.invokevirtual 242, 3)) (kk : W p l e (rM fR lR) s m args below meth c H locs 0 0 Q (F0 m (pc + 3) ls (.int r :: rest))) : W p l e (rM fR lR) s m args below meth c H locs 0 0 Q (F0 m pc ls (.int x1 :: .ref mb :: rest)) := m_cr (m_run (n := 1) X (K_treeOf l D mb σ x1 h) ⟨w_1874, w_1876, w_63, w_1877⟩ (hyX rfl (by decide +kernel)) rfl hr hP hl hW hdg rfl) kk
-- inDoc(I)Z
def f_inDoc_29  (y0 : Int32) (σ : mS) : Option (Int32) := rz y0
def f_inDoc_6  : Nat → Int32 → mS → Option (Int32)
  | 0, _, _ => none
  | n + 1, x2, σ => if x2 < (0:Int32) then (if x2 = ((-1):Int32) then (f_inDoc_29 ((1:Int32)) σ) else (f_inDoc_29 ((0:Int32)) σ)) else ((f_treeOf (x2) σ).bind (fun v1 => f_inDoc_6 n (v1) σ))
def f_inDoc (x1 : Int32) (σ : mS) : Option (Int32) := (f_treeOf (x1) σ).bind (fun v1 => f_inDoc_6 4000 (v1) σ)
set_option maxRecDepth 20000 in
set_option maxHeartbeats 4000000 in
theorem N_inDoc_29 {p : Program} {l : Launch} {e : Env} {s : State} {m : MethodId} {args : Array Value} {below : List Frame} {meth : Method} {c : Code} {D : mD} {mb : Nat}   {y0 : Int32} {σ : mS} {ls : Array Slot} {r : Int32} (X : mX p s m args meth c cX12_inDoc 3 (some .boolean) D) (hP : mP D mb σ s.heap)  (hl : lv_has ls 3 [(0, .ref mb)]) (h : f_inDoc_29  y0 σ = some r) : mWr p l e 2 44 s m args below meth c (some (.int r)) (F0 m 29 ls [.int y0]) := by
  have hx := X.1
  have hb := X.2.1
  have hown := X.2.2.2.1
  have hts := X.2.2.2.2.1
  have h : (rz y0) = some r := h
  obtain ⟨hz, rfl⟩ := rz_spec h
  exact m_rz X hz dX12_inDoc_29
set_option maxRecDepth 20000 in
set_option maxHeartbeats 4000000 in
theorem N_inDoc_6 {p : Program} {l : Launch} {e : Env} {s : State} {m : MethodId} {args : Array Value} {below : List Frame} {meth : Method} {c : Code} {D : mD} {mb : Nat}  {n : Nat} {x2 : Int32} {σ : mS} {ls : Array Slot} {r : Int32} (X : mX p s m args meth c cX12_inDoc 3 (some .boolean) D) (hP : mP D mb σ s.heap)  (hl : lv_has ls 3 [(0, .ref mb), (2, .int x2)]) (h : f_inDoc_6  n x2 σ = some r) : mWr p l e 2 44 s m args below meth c (some (.int r)) (F0 m 6 ls []) := by
  have hx := X.1
  have hb := X.2.1
  have hown := X.2.2.2.1
  have hts := X.2.2.2.2.1
  induction n generalizing x2 ls with
  | zero => exact absurd (show none = some r from h) (by simp)
  | succ n ih =>
    have h : (if x2 < (0:Int32) then (if x2 = ((-1):Int32) then (f_inDoc_29 ((1:Int32)) σ) else (f_inDoc_29 ((0:Int32)) σ)) else ((f_treeOf (x2) σ).bind (fun v1 => f_inDoc_6 n (v1) σ))) = some r := h
    refine lv_iload_n hx hb dX12_inDoc_6 rfl (lv_at hl 1 rfl) ?_
    refine lv_if_lt (tgt := 19) hx hb dX12_inDoc_7 rfl (fun hc => ?_) (fun hc => ?_)
    · have h := ip hc h
      refine lv_iload_n hx hb dX12_inDoc_19 rfl (lv_at hl 1 rfl) ?_
      refine lv_iconst (v := ((-1):Int32)) hx hb dX12_inDoc_20 (by decide) ?_
      refine lv_icmp_ne (tgt := 28) hx hb dX12_inDoc_21 rfl (fun hc => ?_) (fun hc => ?_)
      · have h := ine hc h
        refine lv_iconst (v := (0:Int32)) hx hb dX12_inDoc_28 (by decide) ?_
        exact N_inDoc_29 X hP (lv_sub hl [0] rfl) h
      · have h := ip hc h
        refine lv_iconst (v := (1:Int32)) hx hb dX12_inDoc_24 (by decide) ?_
        refine lv_goto (tgt := 29) hx hb dX12_inDoc_25 rfl ?_
        exact N_inDoc_29 X hP (lv_sub hl [0] rfl) h
    · have h := ine hc h
      refine lv_aload_n hx hb dX12_inDoc_10 rfl (lv_at hl 0 rfl) ?_
      refine lv_iload_n hx hb dX12_inDoc_11 rfl (lv_at hl 1 rfl) ?_
      obtain ⟨v1, hv1, h⟩ := ob h
      refine cl_treeOf X hP hv1 ⟨Nat.le_of_ble_eq_true rfl, Nat.le_of_ble_eq_true rfl⟩ hl.1 (Nat.le_of_ble_eq_true rfl) dX12_inDoc_12 ?_
      refine lv_istore_n hx hb dX12_inDoc_15 rfl hl (Nat.le_of_ble_eq_true rfl) rfl (fun ls (hl : lv_has ls 3 [(2, .int v1), (0, .ref mb)]) => ?_)
      refine lv_goto (tgt := 6) hx hb dX12_inDoc_16 rfl ?_
      exact ih (lv_sub hl [1, 0] rfl) h
set_option maxRecDepth 20000 in
set_option maxHeartbeats 4000000 in
theorem K_inDoc (l : Launch) (D : mD) (mb : Nat) (σ : mS) (x1 : Int32) {r : Int32} (h : f_inDoc x1 σ = some r) : Met l yX12_inDoc (Cond.code yX12_inDoc cX12_inDoc 3 (some .boolean) :: BG) (rM 2 44) (mPc D mb σ [.int x1]) (mQr (some (.int r))) 0 0 (fun _ => False) := by
  refine Met.ofW (cc := cX12_inDoc) (maxL := 3) (ret := (some .boolean)) (by decide) rfl ?_
  intro p e s m args below meth c s₁ B hml hv
  obtain ⟨rfl, hP, hK⟩ := hv
  have X := mX_of B hml rfl hK
  have hx := X.1
  have hb := X.2.1
  have hown := X.2.2.2.1
  have hts := X.2.2.2.2.1
  have hl := lv_entry (.ref mb :: [.int x1]) (n := 3) (Nat.le_of_ble_eq_true rfl)
  rw [lg_entry_eq]
  generalize (lg_sl (.ref mb :: [.int x1]) ++ List.replicate (3 - (lg_sl (.ref mb :: [.int x1])).length) Slot.unset).toArray = ls at hl ⊢
  have hl : lv_has ls 3 [(0, .ref mb), (1, .int x1)] := hl
  show mWr p l e 2 44 s m (Value.ref mb :: [.int x1]).toArray below meth c (some (.int r)) (F0 m 0 ls [])
  have h : ((f_treeOf (x1) σ).bind (fun v1 => f_inDoc_6 4000 (v1) σ)) = some r := h
  refine lv_aload_n hx hb dX12_inDoc_0 rfl (lv_at hl 0 rfl) ?_
  refine lv_iload_n hx hb dX12_inDoc_1 rfl (lv_at hl 1 rfl) ?_
  obtain ⟨v1, hv1, h⟩ := ob h
  refine cl_treeOf X hP hv1 ⟨Nat.le_of_ble_eq_true rfl, Nat.le_of_ble_eq_true rfl⟩ hl.1 (Nat.le_of_ble_eq_true rfl) dX12_inDoc_2 ?_
  refine lv_istore_n hx hb dX12_inDoc_5 rfl hl (Nat.le_of_ble_eq_true rfl) rfl (fun ls (hl : lv_has ls 3 [(2, .int v1), (0, .ref mb), (1, .int x1)]) => ?_)
  exact N_inDoc_6 X hP (lv_sub hl [1, 0] rfl) h
theorem cl_inDoc {p : Program} {l : Launch} {e : Env} {s : State} {m : MethodId} {args : Array Value} {below : List Frame} {meth : Method} {c : Code} {D : mD} {mb : Nat} {H : Heap} {locs : List Loc} {Q : State → Prop} {cc : ByteArray} {pc fR lR nL : Nat} {ls : Array Slot} {rest : List Value} {ret : Option FieldType} {σ : mS} (X : mX p s m args meth c cc nL ret D) (hP : mP D mb σ H) {x1 : Int32} {r : Int32} (h : f_inDoc x1 σ = some r) (hr : 2 + 1 ≤ fR ∧ 8 + (3 + 11) + 44 ≤ lR) (hl : ls.size = nL) (hW : (rest.map fun v => v.category).sum ≤ 8) (hdg : decode cc pc = .ok (.invokevirtual 245, 3)) (kk : W p l e (rM fR lR) s m args below meth c H locs 0 0 Q (F0 m (pc + 3) ls (.int r :: rest))) : W p l e (rM fR lR) s m args below meth c H locs 0 0 Q (F0 m pc ls (.int x1 :: .ref mb :: rest)) := m_cr (m_run (n := 1) X (K_inDoc l D mb σ x1 h) ⟨w_1870, w_1872, w_62, w_1873⟩ (hyX rfl (by decide +kernel)) rfl hr hP hl hW hdg rfl) kk
-- depth(I)I
def f_depth_4  : Nat → Int32 → Int32 → mS → Option (Int32)
  | 0, _, _, _ => none
  | n + 1, x2, x3, σ => if x2 < (0:Int32) then (some x3) else ((f_treeOf (x2) σ).bind (fun v1 => f_depth_4 n (v1) ((x3 + (1:Int32))) σ))
def f_depth (x1 : Int32) (σ : mS) : Option (Int32) := f_depth_4 4000 (x1) ((0:Int32)) σ
set_option maxRecDepth 20000 in
set_option maxHeartbeats 4000000 in
theorem N_depth_4 {p : Program} {l : Launch} {e : Env} {s : State} {m : MethodId} {args : Array Value} {below : List Frame} {meth : Method} {c : Code} {D : mD} {mb : Nat}  {n : Nat} {x2 : Int32} {x3 : Int32} {σ : mS} {ls : Array Slot} {r : Int32} (X : mX p s m args meth c cX12_depth 4 (some .int) D) (hP : mP D mb σ s.heap)  (hl : lv_has ls 4 [(0, .ref mb), (2, .int x2), (3, .int x3)]) (h : f_depth_4  n x2 x3 σ = some r) : mWr p l e 2 44 s m args below meth c (some (.int r)) (F0 m 4 ls []) := by
  have hx := X.1
  have hb := X.2.1
  have hown := X.2.2.2.1
  have hts := X.2.2.2.2.1
  induction n generalizing x2 x3 ls with
  | zero => exact absurd (show none = some r from h) (by simp)
  | succ n ih =>
    have h : (if x2 < (0:Int32) then (some x3) else ((f_treeOf (x2) σ).bind (fun v1 => f_depth_4 n (v1) ((x3 + (1:Int32))) σ))) = some r := h
    refine lv_iload_n hx hb dX12_depth_4 rfl (lv_at hl 1 rfl) ?_
    refine lv_if_lt (tgt := 20) hx hb dX12_depth_5 rfl (fun hc => ?_) (fun hc => ?_)
    · have h := ip hc h
      refine lv_iload_n hx hb dX12_depth_20 rfl (lv_at hl 2 rfl) ?_
      obtain rfl := sj h
      exact m_ri X dX12_depth_21
    · have h := ine hc h
      refine lv_iinc (v := (x3 + (1:Int32))) hx hb dX12_depth_8 hl (k := 2) rfl rfl (Nat.le_of_ble_eq_true rfl) rfl (fun ls (hl : lv_has ls 4 [(3, .int (x3 + (1:Int32))), (0, .ref mb), (2, .int x2)]) => ?_)
      refine lv_aload_n hx hb dX12_depth_11 rfl (lv_at hl 1 rfl) ?_
      refine lv_iload_n hx hb dX12_depth_12 rfl (lv_at hl 2 rfl) ?_
      obtain ⟨v1, hv1, h⟩ := ob h
      refine cl_treeOf X hP hv1 ⟨Nat.le_of_ble_eq_true rfl, Nat.le_of_ble_eq_true rfl⟩ hl.1 (Nat.le_of_ble_eq_true rfl) dX12_depth_13 ?_
      refine lv_istore_n hx hb dX12_depth_16 rfl hl (Nat.le_of_ble_eq_true rfl) rfl (fun ls (hl : lv_has ls 4 [(2, .int v1), (3, .int (x3 + (1:Int32))), (0, .ref mb)]) => ?_)
      refine lv_goto (tgt := 4) hx hb dX12_depth_17 rfl ?_
      exact ih (lv_sub hl [2, 0, 1] rfl) h
set_option maxRecDepth 20000 in
set_option maxHeartbeats 4000000 in
theorem K_depth (l : Launch) (D : mD) (mb : Nat) (σ : mS) (x1 : Int32) {r : Int32} (h : f_depth x1 σ = some r) : Met l yX12_depth (Cond.code yX12_depth cX12_depth 4 (some .int) :: BG) (rM 2 44) (mPc D mb σ [.int x1]) (mQr (some (.int r))) 0 0 (fun _ => False) := by
  refine Met.ofW (cc := cX12_depth) (maxL := 4) (ret := (some .int)) (by decide) rfl ?_
  intro p e s m args below meth c s₁ B hml hv
  obtain ⟨rfl, hP, hK⟩ := hv
  have X := mX_of B hml rfl hK
  have hx := X.1
  have hb := X.2.1
  have hown := X.2.2.2.1
  have hts := X.2.2.2.2.1
  have hl := lv_entry (.ref mb :: [.int x1]) (n := 4) (Nat.le_of_ble_eq_true rfl)
  rw [lg_entry_eq]
  generalize (lg_sl (.ref mb :: [.int x1]) ++ List.replicate (4 - (lg_sl (.ref mb :: [.int x1])).length) Slot.unset).toArray = ls at hl ⊢
  have hl : lv_has ls 4 [(0, .ref mb), (1, .int x1)] := hl
  show mWr p l e 2 44 s m (Value.ref mb :: [.int x1]).toArray below meth c (some (.int r)) (F0 m 0 ls [])
  have h : (f_depth_4 4000 (x1) ((0:Int32)) σ) = some r := h
  refine lv_iload_n hx hb dX12_depth_0 rfl (lv_at hl 1 rfl) ?_
  refine lv_istore_n hx hb dX12_depth_1 rfl hl (Nat.le_of_ble_eq_true rfl) rfl (fun ls (hl : lv_has ls 4 [(2, .int x1), (0, .ref mb), (1, .int x1)]) => ?_)
  refine lv_iconst (v := (0:Int32)) hx hb dX12_depth_2 (by decide) ?_
  refine lv_istore_n hx hb dX12_depth_3 rfl hl (Nat.le_of_ble_eq_true rfl) rfl (fun ls (hl : lv_has ls 4 [(3, .int (0:Int32)), (2, .int x1), (0, .ref mb), (1, .int x1)]) => ?_)
  exact N_depth_4 X hP (lv_sub hl [2, 1, 0] rfl) h
theorem cl_depth {p : Program} {l : Launch} {e : Env} {s : State} {m : MethodId} {args : Array Value} {below : List Frame} {meth : Method} {c : Code} {D : mD} {mb : Nat} {H : Heap} {locs : List Loc} {Q : State → Prop} {cc : ByteArray} {pc fR lR nL : Nat} {ls : Array Slot} {rest : List Value} {ret : Option FieldType} {σ : mS} (X : mX p s m args meth c cc nL ret D) (hP : mP D mb σ H) {x1 : Int32} {r : Int32} (h : f_depth x1 σ = some r) (hr : 2 + 1 ≤ fR ∧ 8 + (4 + 11) + 44 ≤ lR) (hl : ls.size = nL) (hW : (rest.map fun v => v.category).sum ≤ 8) (hdg : decode cc pc = .ok (.invokevirtual 335, 3)) (kk : W p l e (rM fR lR) s m args below meth c H locs 0 0 Q (F0 m (pc + 3) ls (.int r :: rest))) : W p l e (rM fR lR) s m args below meth c H locs 0 0 Q (F0 m pc ls (.int x1 :: .ref mb :: rest)) := m_cr (m_run (n := 1) X (K_depth l D mb σ x1 h) ⟨w_2224, w_2226, w_126, w_2227⟩ (hyX rfl (by decide +kernel)) rfl hr hP hl hW hdg rfl) kk
-- docMask()I
def f_docMask_28 (k4 : Int32 → Int32 → Option (Int32)) (x2 : Int32) (y0 : Int32) (y1 : Int32) (σ : mS) : Option (Int32) := k4 ((y0 ||| y1)) ((x2 + (1:Int32)))
def f_docMask_4  : Nat → Int32 → Int32 → mS → Option (Int32)
  | 0, _, _, _ => none
  | n + 1, x1, x2, σ => if (σ.2 13) ≤ x2 then (some x1) else ((f_inDoc (x2) σ).bind (fun v1 => if v1 = (0:Int32) then (f_docMask_28 (fun z0 z1 => f_docMask_4 n z0 z1 σ) (x2) (x1) ((0:Int32)) σ) else (f_docMask_28 (fun z0 z1 => f_docMask_4 n z0 z1 σ) (x2) (x1) (((1:Int32) <<< (x2 &&& 31))) σ)))
def f_docMask  (σ : mS) : Option (Int32) := f_docMask_4 4000 ((0:Int32)) ((0:Int32)) σ
set_option maxRecDepth 20000 in
set_option maxHeartbeats 4000000 in
theorem N_docMask_28 {p : Program} {l : Launch} {e : Env} {s : State} {m : MethodId} {args : Array Value} {below : List Frame} {meth : Method} {c : Code} {D : mD} {mb : Nat} {k4 : Int32 → Int32 → Option (Int32)}  {x2 : Int32} {y0 : Int32} {y1 : Int32} {σ : mS} {ls : Array Slot} {r : Int32} (X : mX p s m args meth c cX12_docMask 3 (some .int) D) (hP : mP D mb σ s.heap) (hk4 : ∀ {x1 : Int32} {x2 : Int32} {ls : Array Slot}, lv_has ls 3 [(0, .ref mb), (1, .int x1), (2, .int x2)] → k4 x1 x2 = some r → mWr p l e 3 66 s m args below meth c (some (.int r)) (F0 m 4 ls [])) (hl : lv_has ls 3 [(0, .ref mb), (2, .int x2)]) (h : f_docMask_28 k4 x2 y0 y1 σ = some r) : mWr p l e 3 66 s m args below meth c (some (.int r)) (F0 m 28 ls [.int y1, .int y0]) := by
  have hx := X.1
  have hb := X.2.1
  have hown := X.2.2.2.1
  have hts := X.2.2.2.2.1
  have h : (k4 ((y0 ||| y1)) ((x2 + (1:Int32)))) = some r := h
  refine lv_ior hx hb dX12_docMask_28 ?_
  refine lv_istore_n hx hb dX12_docMask_29 rfl hl (Nat.le_of_ble_eq_true rfl) rfl (fun ls (hl : lv_has ls 3 [(1, .int (y0 ||| y1)), (0, .ref mb), (2, .int x2)]) => ?_)
  refine lv_iinc (v := (x2 + (1:Int32))) hx hb dX12_docMask_30 hl (k := 2) rfl rfl (Nat.le_of_ble_eq_true rfl) rfl (fun ls (hl : lv_has ls 3 [(2, .int (x2 + (1:Int32))), (1, .int (y0 ||| y1)), (0, .ref mb)]) => ?_)
  refine lv_goto (tgt := 4) hx hb dX12_docMask_33 rfl ?_
  exact hk4 (lv_sub hl [2, 1, 0] rfl) h
set_option maxRecDepth 20000 in
set_option maxHeartbeats 4000000 in
theorem N_docMask_4 {p : Program} {l : Launch} {e : Env} {s : State} {m : MethodId} {args : Array Value} {below : List Frame} {meth : Method} {c : Code} {D : mD} {mb : Nat}  {n : Nat} {x1 : Int32} {x2 : Int32} {σ : mS} {ls : Array Slot} {r : Int32} (X : mX p s m args meth c cX12_docMask 3 (some .int) D) (hP : mP D mb σ s.heap)  (hl : lv_has ls 3 [(0, .ref mb), (1, .int x1), (2, .int x2)]) (h : f_docMask_4  n x1 x2 σ = some r) : mWr p l e 3 66 s m args below meth c (some (.int r)) (F0 m 4 ls []) := by
  have hx := X.1
  have hb := X.2.1
  have hown := X.2.2.2.1
  have hts := X.2.2.2.2.1
  induction n generalizing x1 x2 ls with
  | zero => exact absurd (show none = some r from h) (by simp)
  | succ n ih =>
    have h : (if (σ.2 13) ≤ x2 then (some x1) else ((f_inDoc (x2) σ).bind (fun v1 => if v1 = (0:Int32) then (f_docMask_28 (fun z0 z1 => f_docMask_4 n z0 z1 σ) (x2) (x1) ((0:Int32)) σ) else (f_docMask_28 (fun z0 z1 => f_docMask_4 n z0 z1 σ) (x2) (x1) (((1:Int32) <<< (x2 &&& 31))) σ)))) = some r := h
    refine lv_iload_n hx hb dX12_docMask_4 rfl (lv_at hl 2 rfl) ?_
    refine lv_aload_n hx hb dX12_docMask_5 rfl (lv_at hl 0 rfl) ?_
    refine mg_made X hP dX12_docMask_6 ?_
    refine lv_icmp_ge (tgt := 36) hx hb dX12_docMask_9 rfl (fun hc => ?_) (fun hc => ?_)
    · have h := ip hc h
      refine lv_iload_n hx hb dX12_docMask_36 rfl (lv_at hl 1 rfl) ?_
      obtain rfl := sj h
      exact m_ri X dX12_docMask_37
    · have h := ine hc h
      refine lv_iload_n hx hb dX12_docMask_12 rfl (lv_at hl 1 rfl) ?_
      refine lv_aload_n hx hb dX12_docMask_13 rfl (lv_at hl 0 rfl) ?_
      refine lv_iload_n hx hb dX12_docMask_14 rfl (lv_at hl 2 rfl) ?_
      obtain ⟨v1, hv1, h⟩ := ob h
      refine cl_inDoc X hP hv1 ⟨Nat.le_of_ble_eq_true rfl, Nat.le_of_ble_eq_true rfl⟩ hl.1 (Nat.le_of_ble_eq_true rfl) dX12_docMask_15 ?_
      refine lv_if_eq (tgt := 27) hx hb dX12_docMask_18 rfl (fun hc => ?_) (fun hc => ?_)
      · have h := ip hc h
        refine lv_iconst (v := (0:Int32)) hx hb dX12_docMask_27 (by decide) ?_
        exact N_docMask_28 X hP ih (lv_sub hl [0, 2] rfl) h
      · have h := ine hc h
        refine lv_iconst (v := (1:Int32)) hx hb dX12_docMask_21 (by decide) ?_
        refine lv_iload_n hx hb dX12_docMask_22 rfl (lv_at hl 2 rfl) ?_
        refine lv_ishl hx hb dX12_docMask_23 ?_
        refine lv_goto (tgt := 28) hx hb dX12_docMask_24 rfl ?_
        exact N_docMask_28 X hP ih (lv_sub hl [0, 2] rfl) h
set_option maxRecDepth 20000 in
set_option maxHeartbeats 4000000 in
theorem K_docMask (l : Launch) (D : mD) (mb : Nat) (σ : mS)  {r : Int32} (h : f_docMask  σ = some r) : Met l yX12_docMask (Cond.code yX12_docMask cX12_docMask 3 (some .int) :: BG) (rM 3 66) (mPc D mb σ []) (mQr (some (.int r))) 0 0 (fun _ => False) := by
  refine Met.ofW (cc := cX12_docMask) (maxL := 3) (ret := (some .int)) (by decide) rfl ?_
  intro p e s m args below meth c s₁ B hml hv
  obtain ⟨rfl, hP, hK⟩ := hv
  have X := mX_of B hml rfl hK
  have hx := X.1
  have hb := X.2.1
  have hown := X.2.2.2.1
  have hts := X.2.2.2.2.1
  have hl := lv_entry (.ref mb :: []) (n := 3) (Nat.le_of_ble_eq_true rfl)
  rw [lg_entry_eq]
  generalize (lg_sl (.ref mb :: []) ++ List.replicate (3 - (lg_sl (.ref mb :: [])).length) Slot.unset).toArray = ls at hl ⊢
  have hl : lv_has ls 3 [(0, .ref mb)] := hl
  show mWr p l e 3 66 s m (Value.ref mb :: []).toArray below meth c (some (.int r)) (F0 m 0 ls [])
  have h : (f_docMask_4 4000 ((0:Int32)) ((0:Int32)) σ) = some r := h
  refine lv_iconst (v := (0:Int32)) hx hb dX12_docMask_0 (by decide) ?_
  refine lv_istore_n hx hb dX12_docMask_1 rfl hl (Nat.le_of_ble_eq_true rfl) rfl (fun ls (hl : lv_has ls 3 [(1, .int (0:Int32)), (0, .ref mb)]) => ?_)
  refine lv_iconst (v := (0:Int32)) hx hb dX12_docMask_2 (by decide) ?_
  refine lv_istore_n hx hb dX12_docMask_3 rfl hl (Nat.le_of_ble_eq_true rfl) rfl (fun ls (hl : lv_has ls 3 [(2, .int (0:Int32)), (1, .int (0:Int32)), (0, .ref mb)]) => ?_)
  exact N_docMask_4 X hP (lv_sub hl [2, 1, 0] rfl) h
theorem cl_docMask {p : Program} {l : Launch} {e : Env} {s : State} {m : MethodId} {args : Array Value} {below : List Frame} {meth : Method} {c : Code} {D : mD} {mb : Nat} {H : Heap} {locs : List Loc} {Q : State → Prop} {cc : ByteArray} {pc fR lR nL : Nat} {ls : Array Slot} {rest : List Value} {ret : Option FieldType} {σ : mS} (X : mX p s m args meth c cc nL ret D) (hP : mP D mb σ H)  {r : Int32} (h : f_docMask  σ = some r) (hr : 3 + 1 ≤ fR ∧ 8 + (3 + 11) + 66 ≤ lR) (hl : ls.size = nL) (hW : (rest.map fun v => v.category).sum ≤ 8) (hdg : decode cc pc = .ok (.invokevirtual 453, 3)) (kk : W p l e (rM fR lR) s m args below meth c H locs 0 0 Q (F0 m (pc + 3) ls (.int r :: rest))) : W p l e (rM fR lR) s m args below meth c H locs 0 0 Q (F0 m pc ls (.ref mb :: rest)) := m_cr (m_run (n := 0) X (K_docMask l D mb σ  h) ⟨w_1866, w_1868, w_61, w_1869⟩ (hyX rfl (by decide +kernel)) rfl hr hP hl hW hdg rfl) kk
-- placeOf(I)I
def f_placeOf_72  (x2 : Int32) (σ : mS) : Option (Int32) := some x2
def f_placeOf_46  : Nat → Int32 → Int32 → mS → Option (Int32)
  | 0, _, _, _ => none
  | n + 1, x1, x2, σ => (rd σ 7 x1).bind (fun v1 => (rd σ 11 (((30:Int32) * v1) + x2)).bind (fun v2 => if v2 = x1 then (f_placeOf_72 (x2) σ) else (f_placeOf_46 n (x1) ((x2 + (1:Int32))) σ)))
def f_placeOf_11  : Nat → Int32 → Int32 → mS → Option (Int32)
  | 0, _, _, _ => none
  | n + 1, x1, x2, σ => (rd σ 6 x1).bind (fun v1 => (rd σ 9 (((30:Int32) * v1) + x2)).bind (fun v2 => if v2 = x1 then (f_placeOf_72 (x2) σ) else (f_placeOf_11 n (x1) ((x2 + (1:Int32))) σ)))
def f_placeOf (x1 : Int32) (σ : mS) : Option (Int32) := (rd σ 6 x1).bind (fun v1 => if v1 < (0:Int32) then ((rd σ 7 x1).bind (fun v2 => if v2 < (0:Int32) then (f_placeOf_72 ((0:Int32)) σ) else (f_placeOf_46 4000 (x1) ((0:Int32)) σ))) else (f_placeOf_11 4000 (x1) ((0:Int32)) σ))
set_option maxRecDepth 20000 in
set_option maxHeartbeats 4000000 in
theorem N_placeOf_72 {p : Program} {l : Launch} {e : Env} {s : State} {m : MethodId} {args : Array Value} {below : List Frame} {meth : Method} {c : Code} {D : mD} {mb : Nat}   {x2 : Int32} {σ : mS} {ls : Array Slot} {r : Int32} (X : mX p s m args meth c cX12_placeOf 3 (some .int) D) (hP : mP D mb σ s.heap)  (hl : lv_has ls 3 [(0, .ref mb), (2, .int x2)]) (h : f_placeOf_72  x2 σ = some r) : mWr p l e 0 0 s m args below meth c (some (.int r)) (F0 m 72 ls []) := by
  have hx := X.1
  have hb := X.2.1
  have hown := X.2.2.2.1
  have hts := X.2.2.2.2.1
  have h : (some x2) = some r := h
  refine lv_iload_n hx hb dX12_placeOf_72 rfl (lv_at hl 1 rfl) ?_
  obtain rfl := sj h
  exact m_ri X dX12_placeOf_73
set_option maxRecDepth 20000 in
set_option maxHeartbeats 4000000 in
theorem N_placeOf_46 {p : Program} {l : Launch} {e : Env} {s : State} {m : MethodId} {args : Array Value} {below : List Frame} {meth : Method} {c : Code} {D : mD} {mb : Nat}  {n : Nat} {x1 : Int32} {x2 : Int32} {σ : mS} {ls : Array Slot} {r : Int32} (X : mX p s m args meth c cX12_placeOf 3 (some .int) D) (hP : mP D mb σ s.heap)  (hl : lv_has ls 3 [(0, .ref mb), (1, .int x1), (2, .int x2)]) (h : f_placeOf_46  n x1 x2 σ = some r) : mWr p l e 0 0 s m args below meth c (some (.int r)) (F0 m 46 ls []) := by
  have hx := X.1
  have hb := X.2.1
  have hown := X.2.2.2.1
  have hts := X.2.2.2.2.1
  induction n generalizing x1 x2 ls with
  | zero => exact absurd (show none = some r from h) (by simp)
  | succ n ih =>
    have h : ((rd σ 7 x1).bind (fun v1 => (rd σ 11 (((30:Int32) * v1) + x2)).bind (fun v2 => if v2 = x1 then (f_placeOf_72 (x2) σ) else (f_placeOf_46 n (x1) ((x2 + (1:Int32))) σ)))) = some r := h
    refine lv_aload_n hx hb dX12_placeOf_46 rfl (lv_at hl 0 rfl) ?_
    refine mg_top X hP dX12_placeOf_47 ?_
    refine lv_bipush (v := (30:Int32)) hx hb dX12_placeOf_50 (by decide) ?_
    refine lv_aload_n hx hb dX12_placeOf_52 rfl (lv_at hl 0 rfl) ?_
    refine mg_host X hP dX12_placeOf_53 ?_
    refine lv_iload_n hx hb dX12_placeOf_56 rfl (lv_at hl 1 rfl) ?_
    obtain ⟨v1, hv1, h⟩ := ob h
    refine m_ald X hP hv1 dX12_placeOf_57 ?_
    refine lv_imul hx hb dX12_placeOf_58 ?_
    refine lv_iload_n hx hb dX12_placeOf_59 rfl (lv_at hl 2 rfl) ?_
    refine lv_iadd hx hb dX12_placeOf_60 ?_
    obtain ⟨v2, hv2, h⟩ := ob h
    refine m_ald X hP hv2 dX12_placeOf_61 ?_
    refine lv_iload_n hx hb dX12_placeOf_62 rfl (lv_at hl 1 rfl) ?_
    refine lv_icmp_eq (tgt := 72) hx hb dX12_placeOf_63 rfl (fun hc => ?_) (fun hc => ?_)
    · have h := ip hc h
      exact N_placeOf_72 X hP (lv_sub hl [0, 2] rfl) h
    · have h := ine hc h
      refine lv_iinc (v := (x2 + (1:Int32))) hx hb dX12_placeOf_66 hl (k := 2) rfl rfl (Nat.le_of_ble_eq_true rfl) rfl (fun ls (hl : lv_has ls 3 [(2, .int (x2 + (1:Int32))), (0, .ref mb), (1, .int x1)]) => ?_)
      refine lv_goto (tgt := 46) hx hb dX12_placeOf_69 rfl ?_
      exact ih (lv_sub hl [1, 2, 0] rfl) h
set_option maxRecDepth 20000 in
set_option maxHeartbeats 4000000 in
theorem N_placeOf_11 {p : Program} {l : Launch} {e : Env} {s : State} {m : MethodId} {args : Array Value} {below : List Frame} {meth : Method} {c : Code} {D : mD} {mb : Nat}  {n : Nat} {x1 : Int32} {x2 : Int32} {σ : mS} {ls : Array Slot} {r : Int32} (X : mX p s m args meth c cX12_placeOf 3 (some .int) D) (hP : mP D mb σ s.heap)  (hl : lv_has ls 3 [(0, .ref mb), (1, .int x1), (2, .int x2)]) (h : f_placeOf_11  n x1 x2 σ = some r) : mWr p l e 0 0 s m args below meth c (some (.int r)) (F0 m 11 ls []) := by
  have hx := X.1
  have hb := X.2.1
  have hown := X.2.2.2.1
  have hts := X.2.2.2.2.1
  induction n generalizing x1 x2 ls with
  | zero => exact absurd (show none = some r from h) (by simp)
  | succ n ih =>
    have h : ((rd σ 6 x1).bind (fun v1 => (rd σ 9 (((30:Int32) * v1) + x2)).bind (fun v2 => if v2 = x1 then (f_placeOf_72 (x2) σ) else (f_placeOf_11 n (x1) ((x2 + (1:Int32))) σ)))) = some r := h
    refine lv_aload_n hx hb dX12_placeOf_11 rfl (lv_at hl 0 rfl) ?_
    refine mg_kid X hP dX12_placeOf_12 ?_
    refine lv_bipush (v := (30:Int32)) hx hb dX12_placeOf_15 (by decide) ?_
    refine lv_aload_n hx hb dX12_placeOf_17 rfl (lv_at hl 0 rfl) ?_
    refine mg_parent X hP dX12_placeOf_18 ?_
    refine lv_iload_n hx hb dX12_placeOf_21 rfl (lv_at hl 1 rfl) ?_
    obtain ⟨v1, hv1, h⟩ := ob h
    refine m_ald X hP hv1 dX12_placeOf_22 ?_
    refine lv_imul hx hb dX12_placeOf_23 ?_
    refine lv_iload_n hx hb dX12_placeOf_24 rfl (lv_at hl 2 rfl) ?_
    refine lv_iadd hx hb dX12_placeOf_25 ?_
    obtain ⟨v2, hv2, h⟩ := ob h
    refine m_ald X hP hv2 dX12_placeOf_26 ?_
    refine lv_iload_n hx hb dX12_placeOf_27 rfl (lv_at hl 1 rfl) ?_
    refine lv_icmp_eq (tgt := 72) hx hb dX12_placeOf_28 rfl (fun hc => ?_) (fun hc => ?_)
    · have h := ip hc h
      exact N_placeOf_72 X hP (lv_sub hl [0, 2] rfl) h
    · have h := ine hc h
      refine lv_iinc (v := (x2 + (1:Int32))) hx hb dX12_placeOf_31 hl (k := 2) rfl rfl (Nat.le_of_ble_eq_true rfl) rfl (fun ls (hl : lv_has ls 3 [(2, .int (x2 + (1:Int32))), (0, .ref mb), (1, .int x1)]) => ?_)
      refine lv_goto (tgt := 11) hx hb dX12_placeOf_34 rfl ?_
      exact ih (lv_sub hl [1, 2, 0] rfl) h
set_option maxRecDepth 20000 in
set_option maxHeartbeats 4000000 in
theorem K_placeOf (l : Launch) (D : mD) (mb : Nat) (σ : mS) (x1 : Int32) {r : Int32} (h : f_placeOf x1 σ = some r) : Met l yX12_placeOf (Cond.code yX12_placeOf cX12_placeOf 3 (some .int) :: BG) (rM 0 0) (mPc D mb σ [.int x1]) (mQr (some (.int r))) 0 0 (fun _ => False) := by
  refine Met.ofW (cc := cX12_placeOf) (maxL := 3) (ret := (some .int)) (by decide) rfl ?_
  intro p e s m args below meth c s₁ B hml hv
  obtain ⟨rfl, hP, hK⟩ := hv
  have X := mX_of B hml rfl hK
  have hx := X.1
  have hb := X.2.1
  have hown := X.2.2.2.1
  have hts := X.2.2.2.2.1
  have hl := lv_entry (.ref mb :: [.int x1]) (n := 3) (Nat.le_of_ble_eq_true rfl)
  rw [lg_entry_eq]
  generalize (lg_sl (.ref mb :: [.int x1]) ++ List.replicate (3 - (lg_sl (.ref mb :: [.int x1])).length) Slot.unset).toArray = ls at hl ⊢
  have hl : lv_has ls 3 [(0, .ref mb), (1, .int x1)] := hl
  show mWr p l e 0 0 s m (Value.ref mb :: [.int x1]).toArray below meth c (some (.int r)) (F0 m 0 ls [])
  have h : ((rd σ 6 x1).bind (fun v1 => if v1 < (0:Int32) then ((rd σ 7 x1).bind (fun v2 => if v2 < (0:Int32) then (f_placeOf_72 ((0:Int32)) σ) else (f_placeOf_46 4000 (x1) ((0:Int32)) σ))) else (f_placeOf_11 4000 (x1) ((0:Int32)) σ))) = some r := h
  refine lv_iconst (v := (0:Int32)) hx hb dX12_placeOf_0 (by decide) ?_
  refine lv_istore_n hx hb dX12_placeOf_1 rfl hl (Nat.le_of_ble_eq_true rfl) rfl (fun ls (hl : lv_has ls 3 [(2, .int (0:Int32)), (0, .ref mb), (1, .int x1)]) => ?_)
  refine lv_aload_n hx hb dX12_placeOf_2 rfl (lv_at hl 1 rfl) ?_
  refine mg_parent X hP dX12_placeOf_3 ?_
  refine lv_iload_n hx hb dX12_placeOf_6 rfl (lv_at hl 2 rfl) ?_
  obtain ⟨v1, hv1, h⟩ := ob h
  refine m_ald X hP hv1 dX12_placeOf_7 ?_
  refine lv_if_lt (tgt := 37) hx hb dX12_placeOf_8 rfl (fun hc => ?_) (fun hc => ?_)
  · have h := ip hc h
    refine lv_aload_n hx hb dX12_placeOf_37 rfl (lv_at hl 1 rfl) ?_
    refine mg_host X hP dX12_placeOf_38 ?_
    refine lv_iload_n hx hb dX12_placeOf_41 rfl (lv_at hl 2 rfl) ?_
    obtain ⟨v2, hv2, h⟩ := ob h
    refine m_ald X hP hv2 dX12_placeOf_42 ?_
    refine lv_if_lt (tgt := 72) hx hb dX12_placeOf_43 rfl (fun hc => ?_) (fun hc => ?_)
    · have h := ip hc h
      exact N_placeOf_72 X hP (lv_sub hl [1, 0] rfl) h
    · have h := ine hc h
      exact N_placeOf_46 X hP (lv_sub hl [1, 2, 0] rfl) h
  · have h := ine hc h
    exact N_placeOf_11 X hP (lv_sub hl [1, 2, 0] rfl) h
theorem cl_placeOf {p : Program} {l : Launch} {e : Env} {s : State} {m : MethodId} {args : Array Value} {below : List Frame} {meth : Method} {c : Code} {D : mD} {mb : Nat} {H : Heap} {locs : List Loc} {Q : State → Prop} {cc : ByteArray} {pc fR lR nL : Nat} {ls : Array Slot} {rest : List Value} {ret : Option FieldType} {σ : mS} (X : mX p s m args meth c cc nL ret D) (hP : mP D mb σ H) {x1 : Int32} {r : Int32} (h : f_placeOf x1 σ = some r) (hr : 0 + 1 ≤ fR ∧ 8 + (3 + 11) + 0 ≤ lR) (hl : ls.size = nL) (hW : (rest.map fun v => v.category).sum ≤ 8) (hdg : decode cc pc = .ok (.invokevirtual 248, 3)) (kk : W p l e (rM fR lR) s m args below meth c H locs 0 0 Q (F0 m (pc + 3) ls (.int r :: rest))) : W p l e (rM fR lR) s m args below meth c H locs 0 0 Q (F0 m pc ls (.int x1 :: .ref mb :: rest)) := m_cr (m_run (n := 1) X (K_placeOf l D mb σ x1 h) ⟨w_1930, w_1932, w_76, w_1933⟩ (hyX rfl (by decide +kernel)) rfl hr hP hl hW hdg rfl) kk
-- sibling(I)I
def f_sibling_97  (y0 : Int32) (σ : mS) : Option (Int32) := some y0
def f_sibling_96   (σ : mS) : Option (Int32) := f_sibling_97 (((-1):Int32)) σ
def f_sibling_52  (y0 : Int32) (σ : mS) : Option (Int32) := some y0
def f_sibling (x1 : Int32) (σ : mS) : Option (Int32) := (f_placeOf (x1) σ).bind (fun v1 => (rd σ 6 x1).bind (fun v2 => if v2 < (0:Int32) then ((rd σ 7 x1).bind (fun v3 => if v3 < (0:Int32) then (f_sibling_96 σ) else ((rd σ 7 x1).bind (fun v4 => (rd σ 12 v4).bind (fun v5 => if v5 ≤ (v1 + (1:Int32)) then (f_sibling_96 σ) else ((rd σ 7 x1).bind (fun v6 => (rd σ 11 (((30:Int32) * v6) + (v1 + (1:Int32)))).bind (fun v7 => f_sibling_97 (v7) σ)))))))) else ((rd σ 6 x1).bind (fun v8 => (rd σ 10 v8).bind (fun v9 => if v9 ≤ (v1 + (1:Int32)) then (f_sibling_52 (((-1):Int32)) σ) else ((rd σ 6 x1).bind (fun v10 => (rd σ 9 (((30:Int32) * v10) + (v1 + (1:Int32)))).bind (fun v11 => f_sibling_52 (v11) σ))))))))
set_option maxRecDepth 20000 in
set_option maxHeartbeats 4000000 in
theorem N_sibling_97 {p : Program} {l : Launch} {e : Env} {s : State} {m : MethodId} {args : Array Value} {below : List Frame} {meth : Method} {c : Code} {D : mD} {mb : Nat}   {y0 : Int32} {σ : mS} {ls : Array Slot} {r : Int32} (X : mX p s m args meth c cX12_sibling 3 (some .int) D) (hP : mP D mb σ s.heap)  (hl : lv_has ls 3 [(0, .ref mb)]) (h : f_sibling_97  y0 σ = some r) : mWr p l e 1 22 s m args below meth c (some (.int r)) (F0 m 97 ls [.int y0]) := by
  have hx := X.1
  have hb := X.2.1
  have hown := X.2.2.2.1
  have hts := X.2.2.2.2.1
  have h : (some y0) = some r := h
  obtain rfl := sj h
  exact m_ri X dX12_sibling_97
set_option maxRecDepth 20000 in
set_option maxHeartbeats 4000000 in
theorem N_sibling_96 {p : Program} {l : Launch} {e : Env} {s : State} {m : MethodId} {args : Array Value} {below : List Frame} {meth : Method} {c : Code} {D : mD} {mb : Nat}    {σ : mS} {ls : Array Slot} {r : Int32} (X : mX p s m args meth c cX12_sibling 3 (some .int) D) (hP : mP D mb σ s.heap)  (hl : lv_has ls 3 [(0, .ref mb)]) (h : f_sibling_96   σ = some r) : mWr p l e 1 22 s m args below meth c (some (.int r)) (F0 m 96 ls []) := by
  have hx := X.1
  have hb := X.2.1
  have hown := X.2.2.2.1
  have hts := X.2.2.2.2.1
  have h : (f_sibling_97 (((-1):Int32)) σ) = some r := h
  refine lv_iconst (v := ((-1):Int32)) hx hb dX12_sibling_96 (by decide) ?_
  exact N_sibling_97 X hP (lv_sub hl [0] rfl) h
set_option maxRecDepth 20000 in
set_option maxHeartbeats 4000000 in
theorem N_sibling_52 {p : Program} {l : Launch} {e : Env} {s : State} {m : MethodId} {args : Array Value} {below : List Frame} {meth : Method} {c : Code} {D : mD} {mb : Nat}   {y0 : Int32} {σ : mS} {ls : Array Slot} {r : Int32} (X : mX p s m args meth c cX12_sibling 3 (some .int) D) (hP : mP D mb σ s.heap)  (hl : lv_has ls 3 [(0, .ref mb)]) (h : f_sibling_52  y0 σ = some r) : mWr p l e 1 22 s m args below meth c (some (.int r)) (F0 m 52 ls [.int y0]) := by
  have hx := X.1
  have hb := X.2.1
  have hown := X.2.2.2.1
  have hts := X.2.2.2.2.1
  have h : (some y0) = some r := h
  obtain rfl := sj h
  exact m_ri X dX12_sibling_52
set_option maxRecDepth 20000 in
set_option maxHeartbeats 4000000 in
theorem K_sibling (l : Launch) (D : mD) (mb : Nat) (σ : mS) (x1 : Int32) {r : Int32} (h : f_sibling x1 σ = some r) : Met l yX12_sibling (Cond.code yX12_sibling cX12_sibling 3 (some .int) :: BG) (rM 1 22) (mPc D mb σ [.int x1]) (mQr (some (.int r))) 0 0 (fun _ => False) := by
  refine Met.ofW (cc := cX12_sibling) (maxL := 3) (ret := (some .int)) (by decide) rfl ?_
  intro p e s m args below meth c s₁ B hml hv
  obtain ⟨rfl, hP, hK⟩ := hv
  have X := mX_of B hml rfl hK
  have hx := X.1
  have hb := X.2.1
  have hown := X.2.2.2.1
  have hts := X.2.2.2.2.1
  have hl := lv_entry (.ref mb :: [.int x1]) (n := 3) (Nat.le_of_ble_eq_true rfl)
  rw [lg_entry_eq]
  generalize (lg_sl (.ref mb :: [.int x1]) ++ List.replicate (3 - (lg_sl (.ref mb :: [.int x1])).length) Slot.unset).toArray = ls at hl ⊢
  have hl : lv_has ls 3 [(0, .ref mb), (1, .int x1)] := hl
  show mWr p l e 1 22 s m (Value.ref mb :: [.int x1]).toArray below meth c (some (.int r)) (F0 m 0 ls [])
  have h : ((f_placeOf (x1) σ).bind (fun v1 => (rd σ 6 x1).bind (fun v2 => if v2 < (0:Int32) then ((rd σ 7 x1).bind (fun v3 => if v3 < (0:Int32) then (f_sibling_96 σ) else ((rd σ 7 x1).bind (fun v4 => (rd σ 12 v4).bind (fun v5 => if v5 ≤ (v1 + (1:Int32)) then (f_sibling_96 σ) else ((rd σ 7 x1).bind (fun v6 => (rd σ 11 (((30:Int32) * v6) + (v1 + (1:Int32)))).bind (fun v7 => f_sibling_97 (v7) σ)))))))) else ((rd σ 6 x1).bind (fun v8 => (rd σ 10 v8).bind (fun v9 => if v9 ≤ (v1 + (1:Int32)) then (f_sibling_52 (((-1):Int32)) σ) else ((rd σ 6 x1).bind (fun v10 => (rd σ 9 (((30:Int32) * v10) + (v1 + (1:Int32)))).bind (fun v11 => f_sibling_52 (v11) σ))))))))) = some r := h
  refine lv_aload_n hx hb dX12_sibling_0 rfl (lv_at hl 0 rfl) ?_
  refine lv_iload_n hx hb dX12_sibling_1 rfl (lv_at hl 1 rfl) ?_
  obtain ⟨v1, hv1, h⟩ := ob h
  refine cl_placeOf X hP hv1 ⟨Nat.le_of_ble_eq_true rfl, Nat.le_of_ble_eq_true rfl⟩ hl.1 (Nat.le_of_ble_eq_true rfl) dX12_sibling_2 ?_
  refine lv_iconst (v := (1:Int32)) hx hb dX12_sibling_5 (by decide) ?_
  refine lv_iadd hx hb dX12_sibling_6 ?_
  refine lv_istore_n hx hb dX12_sibling_7 rfl hl (Nat.le_of_ble_eq_true rfl) rfl (fun ls (hl : lv_has ls 3 [(2, .int (v1 + (1:Int32))), (0, .ref mb), (1, .int x1)]) => ?_)
  refine lv_aload_n hx hb dX12_sibling_8 rfl (lv_at hl 1 rfl) ?_
  refine mg_parent X hP dX12_sibling_9 ?_
  refine lv_iload_n hx hb dX12_sibling_12 rfl (lv_at hl 2 rfl) ?_
  obtain ⟨v2, hv2, h⟩ := ob h
  refine m_ald X hP hv2 dX12_sibling_13 ?_
  refine lv_if_lt (tgt := 53) hx hb dX12_sibling_14 rfl (fun hc => ?_) (fun hc => ?_)
  · have h := ip hc h
    refine lv_aload_n hx hb dX12_sibling_53 rfl (lv_at hl 1 rfl) ?_
    refine mg_host X hP dX12_sibling_54 ?_
    refine lv_iload_n hx hb dX12_sibling_57 rfl (lv_at hl 2 rfl) ?_
    obtain ⟨v3, hv3, h⟩ := ob h
    refine m_ald X hP hv3 dX12_sibling_58 ?_
    refine lv_if_lt (tgt := 96) hx hb dX12_sibling_59 rfl (fun hc => ?_) (fun hc => ?_)
    · have h := ip hc h
      exact N_sibling_96 X hP (lv_sub hl [1] rfl) h
    · have h := ine hc h
      refine lv_iload_n hx hb dX12_sibling_62 rfl (lv_at hl 0 rfl) ?_
      refine lv_aload_n hx hb dX12_sibling_63 rfl (lv_at hl 1 rfl) ?_
      refine mg_tops X hP dX12_sibling_64 ?_
      refine lv_aload_n hx hb dX12_sibling_67 rfl (lv_at hl 1 rfl) ?_
      refine mg_host X hP dX12_sibling_68 ?_
      refine lv_iload_n hx hb dX12_sibling_71 rfl (lv_at hl 2 rfl) ?_
      obtain ⟨v4, hv4, h⟩ := ob h
      refine m_ald X hP hv4 dX12_sibling_72 ?_
      obtain ⟨v5, hv5, h⟩ := ob h
      refine m_ald X hP hv5 dX12_sibling_73 ?_
      refine lv_icmp_ge (tgt := 96) hx hb dX12_sibling_74 rfl (fun hc => ?_) (fun hc => ?_)
      · have h := ip hc h
        exact N_sibling_96 X hP (lv_sub hl [1] rfl) h
      · have h := ine hc h
        refine lv_aload_n hx hb dX12_sibling_77 rfl (lv_at hl 1 rfl) ?_
        refine mg_top X hP dX12_sibling_78 ?_
        refine lv_bipush (v := (30:Int32)) hx hb dX12_sibling_81 (by decide) ?_
        refine lv_aload_n hx hb dX12_sibling_83 rfl (lv_at hl 1 rfl) ?_
        refine mg_host X hP dX12_sibling_84 ?_
        refine lv_iload_n hx hb dX12_sibling_87 rfl (lv_at hl 2 rfl) ?_
        obtain ⟨v6, hv6, h⟩ := ob h
        refine m_ald X hP hv6 dX12_sibling_88 ?_
        refine lv_imul hx hb dX12_sibling_89 ?_
        refine lv_iload_n hx hb dX12_sibling_90 rfl (lv_at hl 0 rfl) ?_
        refine lv_iadd hx hb dX12_sibling_91 ?_
        obtain ⟨v7, hv7, h⟩ := ob h
        refine m_ald X hP hv7 dX12_sibling_92 ?_
        refine lv_goto (tgt := 97) hx hb dX12_sibling_93 rfl ?_
        exact N_sibling_97 X hP (lv_sub hl [1] rfl) h
  · have h := ine hc h
    refine lv_iload_n hx hb dX12_sibling_17 rfl (lv_at hl 0 rfl) ?_
    refine lv_aload_n hx hb dX12_sibling_18 rfl (lv_at hl 1 rfl) ?_
    refine mg_kids X hP dX12_sibling_19 ?_
    refine lv_aload_n hx hb dX12_sibling_22 rfl (lv_at hl 1 rfl) ?_
    refine mg_parent X hP dX12_sibling_23 ?_
    refine lv_iload_n hx hb dX12_sibling_26 rfl (lv_at hl 2 rfl) ?_
    obtain ⟨v8, hv8, h⟩ := ob h
    refine m_ald X hP hv8 dX12_sibling_27 ?_
    obtain ⟨v9, hv9, h⟩ := ob h
    refine m_ald X hP hv9 dX12_sibling_28 ?_
    refine lv_icmp_ge (tgt := 51) hx hb dX12_sibling_29 rfl (fun hc => ?_) (fun hc => ?_)
    · have h := ip hc h
      refine lv_iconst (v := ((-1):Int32)) hx hb dX12_sibling_51 (by decide) ?_
      exact N_sibling_52 X hP (lv_sub hl [1] rfl) h
    · have h := ine hc h
      refine lv_aload_n hx hb dX12_sibling_32 rfl (lv_at hl 1 rfl) ?_
      refine mg_kid X hP dX12_sibling_33 ?_
      refine lv_bipush (v := (30:Int32)) hx hb dX12_sibling_36 (by decide) ?_
      refine lv_aload_n hx hb dX12_sibling_38 rfl (lv_at hl 1 rfl) ?_
      refine mg_parent X hP dX12_sibling_39 ?_
      refine lv_iload_n hx hb dX12_sibling_42 rfl (lv_at hl 2 rfl) ?_
      obtain ⟨v10, hv10, h⟩ := ob h
      refine m_ald X hP hv10 dX12_sibling_43 ?_
      refine lv_imul hx hb dX12_sibling_44 ?_
      refine lv_iload_n hx hb dX12_sibling_45 rfl (lv_at hl 0 rfl) ?_
      refine lv_iadd hx hb dX12_sibling_46 ?_
      obtain ⟨v11, hv11, h⟩ := ob h
      refine m_ald X hP hv11 dX12_sibling_47 ?_
      refine lv_goto (tgt := 52) hx hb dX12_sibling_48 rfl ?_
      exact N_sibling_52 X hP (lv_sub hl [1] rfl) h
theorem cl_sibling {p : Program} {l : Launch} {e : Env} {s : State} {m : MethodId} {args : Array Value} {below : List Frame} {meth : Method} {c : Code} {D : mD} {mb : Nat} {H : Heap} {locs : List Loc} {Q : State → Prop} {cc : ByteArray} {pc fR lR nL : Nat} {ls : Array Slot} {rest : List Value} {ret : Option FieldType} {σ : mS} (X : mX p s m args meth c cc nL ret D) (hP : mP D mb σ H) {x1 : Int32} {r : Int32} (h : f_sibling x1 σ = some r) (hr : 1 + 1 ≤ fR ∧ 8 + (3 + 11) + 22 ≤ lR) (hl : ls.size = nL) (hW : (rest.map fun v => v.category).sum ≤ 8) (hdg : decode cc pc = .ok (.invokevirtual 251, 3)) (kk : W p l e (rM fR lR) s m args below meth c H locs 0 0 Q (F0 m (pc + 3) ls (.int r :: rest))) : W p l e (rM fR lR) s m args below meth c H locs 0 0 Q (F0 m pc ls (.int x1 :: .ref mb :: rest)) := m_cr (m_run (n := 1) X (K_sibling l D mb σ x1 h) ⟨w_1926, w_1928, w_75, w_1929⟩ (hyX rfl (by decide +kernel)) rfl hr hP hl hW hdg rfl) kk
-- nextIn(I)I
def f_nextIn_56  (y0 : Int32) (σ : mS) : Option (Int32) := some y0
def f_nextIn_43  (x2 : Int32) (σ : mS) : Option (Int32) := if (0:Int32) ≤ x2 then ((f_sibling (x2) σ).bind (fun v1 => f_nextIn_56 (v1) σ)) else (f_nextIn_56 (((-1):Int32)) σ)
def f_nextIn_21  : Nat → Int32 → mS → Option (Int32)
  | 0, _, _ => none
  | n + 1, x2, σ => if x2 < (0:Int32) then (f_nextIn_43 (x2) σ) else ((f_sibling (x2) σ).bind (fun v1 => if (0:Int32) ≤ v1 then (f_nextIn_43 (x2) σ) else ((rd σ 6 x2).bind (fun v2 => f_nextIn_21 n (v2) σ))))
def f_nextIn (x1 : Int32) (σ : mS) : Option (Int32) := (rd σ 10 x1).bind (fun v1 => if v1 ≤ (0:Int32) then (f_nextIn_21 4000 (x1) σ) else ((rd σ 9 ((30:Int32) * x1)).bind (fun v2 => some v2)))
set_option maxRecDepth 20000 in
set_option maxHeartbeats 4000000 in
theorem N_nextIn_56 {p : Program} {l : Launch} {e : Env} {s : State} {m : MethodId} {args : Array Value} {below : List Frame} {meth : Method} {c : Code} {D : mD} {mb : Nat}   {y0 : Int32} {σ : mS} {ls : Array Slot} {r : Int32} (X : mX p s m args meth c cX12_nextIn 3 (some .int) D) (hP : mP D mb σ s.heap)  (hl : lv_has ls 3 [(0, .ref mb)]) (h : f_nextIn_56  y0 σ = some r) : mWr p l e 2 44 s m args below meth c (some (.int r)) (F0 m 56 ls [.int y0]) := by
  have hx := X.1
  have hb := X.2.1
  have hown := X.2.2.2.1
  have hts := X.2.2.2.2.1
  have h : (some y0) = some r := h
  obtain rfl := sj h
  exact m_ri X dX12_nextIn_56
set_option maxRecDepth 20000 in
set_option maxHeartbeats 4000000 in
theorem N_nextIn_43 {p : Program} {l : Launch} {e : Env} {s : State} {m : MethodId} {args : Array Value} {below : List Frame} {meth : Method} {c : Code} {D : mD} {mb : Nat}   {x2 : Int32} {σ : mS} {ls : Array Slot} {r : Int32} (X : mX p s m args meth c cX12_nextIn 3 (some .int) D) (hP : mP D mb σ s.heap)  (hl : lv_has ls 3 [(0, .ref mb), (2, .int x2)]) (h : f_nextIn_43  x2 σ = some r) : mWr p l e 2 44 s m args below meth c (some (.int r)) (F0 m 43 ls []) := by
  have hx := X.1
  have hb := X.2.1
  have hown := X.2.2.2.1
  have hts := X.2.2.2.2.1
  have h : (if (0:Int32) ≤ x2 then ((f_sibling (x2) σ).bind (fun v1 => f_nextIn_56 (v1) σ)) else (f_nextIn_56 (((-1):Int32)) σ)) = some r := h
  refine lv_iload_n hx hb dX12_nextIn_43 rfl (lv_at hl 1 rfl) ?_
  refine lv_if_ge (tgt := 51) hx hb dX12_nextIn_44 rfl (fun hc => ?_) (fun hc => ?_)
  · have h := ip hc h
    refine lv_aload_n hx hb dX12_nextIn_51 rfl (lv_at hl 0 rfl) ?_
    refine lv_iload_n hx hb dX12_nextIn_52 rfl (lv_at hl 1 rfl) ?_
    obtain ⟨v1, hv1, h⟩ := ob h
    refine cl_sibling X hP hv1 ⟨Nat.le_of_ble_eq_true rfl, Nat.le_of_ble_eq_true rfl⟩ hl.1 (Nat.le_of_ble_eq_true rfl) dX12_nextIn_53 ?_
    exact N_nextIn_56 X hP (lv_sub hl [0] rfl) h
  · have h := ine hc h
    refine lv_iconst (v := ((-1):Int32)) hx hb dX12_nextIn_47 (by decide) ?_
    refine lv_goto (tgt := 56) hx hb dX12_nextIn_48 rfl ?_
    exact N_nextIn_56 X hP (lv_sub hl [0] rfl) h
set_option maxRecDepth 20000 in
set_option maxHeartbeats 4000000 in
theorem N_nextIn_21 {p : Program} {l : Launch} {e : Env} {s : State} {m : MethodId} {args : Array Value} {below : List Frame} {meth : Method} {c : Code} {D : mD} {mb : Nat}  {n : Nat} {x2 : Int32} {σ : mS} {ls : Array Slot} {r : Int32} (X : mX p s m args meth c cX12_nextIn 3 (some .int) D) (hP : mP D mb σ s.heap)  (hl : lv_has ls 3 [(0, .ref mb), (2, .int x2)]) (h : f_nextIn_21  n x2 σ = some r) : mWr p l e 2 44 s m args below meth c (some (.int r)) (F0 m 21 ls []) := by
  have hx := X.1
  have hb := X.2.1
  have hown := X.2.2.2.1
  have hts := X.2.2.2.2.1
  induction n generalizing x2 ls with
  | zero => exact absurd (show none = some r from h) (by simp)
  | succ n ih =>
    have h : (if x2 < (0:Int32) then (f_nextIn_43 (x2) σ) else ((f_sibling (x2) σ).bind (fun v1 => if (0:Int32) ≤ v1 then (f_nextIn_43 (x2) σ) else ((rd σ 6 x2).bind (fun v2 => f_nextIn_21 n (v2) σ))))) = some r := h
    refine lv_iload_n hx hb dX12_nextIn_21 rfl (lv_at hl 1 rfl) ?_
    refine lv_if_lt (tgt := 43) hx hb dX12_nextIn_22 rfl (fun hc => ?_) (fun hc => ?_)
    · have h := ip hc h
      exact N_nextIn_43 X hP (lv_sub hl [0, 1] rfl) h
    · have h := ine hc h
      refine lv_aload_n hx hb dX12_nextIn_25 rfl (lv_at hl 0 rfl) ?_
      refine lv_iload_n hx hb dX12_nextIn_26 rfl (lv_at hl 1 rfl) ?_
      obtain ⟨v1, hv1, h⟩ := ob h
      refine cl_sibling X hP hv1 ⟨Nat.le_of_ble_eq_true rfl, Nat.le_of_ble_eq_true rfl⟩ hl.1 (Nat.le_of_ble_eq_true rfl) dX12_nextIn_27 ?_
      refine lv_if_ge (tgt := 43) hx hb dX12_nextIn_30 rfl (fun hc => ?_) (fun hc => ?_)
      · have h := ip hc h
        exact N_nextIn_43 X hP (lv_sub hl [0, 1] rfl) h
      · have h := ine hc h
        refine lv_aload_n hx hb dX12_nextIn_33 rfl (lv_at hl 0 rfl) ?_
        refine mg_parent X hP dX12_nextIn_34 ?_
        refine lv_iload_n hx hb dX12_nextIn_37 rfl (lv_at hl 1 rfl) ?_
        obtain ⟨v2, hv2, h⟩ := ob h
        refine m_ald X hP hv2 dX12_nextIn_38 ?_
        refine lv_istore_n hx hb dX12_nextIn_39 rfl hl (Nat.le_of_ble_eq_true rfl) rfl (fun ls (hl : lv_has ls 3 [(2, .int v2), (0, .ref mb)]) => ?_)
        refine lv_goto (tgt := 21) hx hb dX12_nextIn_40 rfl ?_
        exact ih (lv_sub hl [1, 0] rfl) h
set_option maxRecDepth 20000 in
set_option maxHeartbeats 4000000 in
theorem K_nextIn (l : Launch) (D : mD) (mb : Nat) (σ : mS) (x1 : Int32) {r : Int32} (h : f_nextIn x1 σ = some r) : Met l yX12_nextIn (Cond.code yX12_nextIn cX12_nextIn 3 (some .int) :: BG) (rM 2 44) (mPc D mb σ [.int x1]) (mQr (some (.int r))) 0 0 (fun _ => False) := by
  refine Met.ofW (cc := cX12_nextIn) (maxL := 3) (ret := (some .int)) (by decide) rfl ?_
  intro p e s m args below meth c s₁ B hml hv
  obtain ⟨rfl, hP, hK⟩ := hv
  have X := mX_of B hml rfl hK
  have hx := X.1
  have hb := X.2.1
  have hown := X.2.2.2.1
  have hts := X.2.2.2.2.1
  have hl := lv_entry (.ref mb :: [.int x1]) (n := 3) (Nat.le_of_ble_eq_true rfl)
  rw [lg_entry_eq]
  generalize (lg_sl (.ref mb :: [.int x1]) ++ List.replicate (3 - (lg_sl (.ref mb :: [.int x1])).length) Slot.unset).toArray = ls at hl ⊢
  have hl : lv_has ls 3 [(0, .ref mb), (1, .int x1)] := hl
  show mWr p l e 2 44 s m (Value.ref mb :: [.int x1]).toArray below meth c (some (.int r)) (F0 m 0 ls [])
  have h : ((rd σ 10 x1).bind (fun v1 => if v1 ≤ (0:Int32) then (f_nextIn_21 4000 (x1) σ) else ((rd σ 9 ((30:Int32) * x1)).bind (fun v2 => some v2)))) = some r := h
  refine lv_aload_n hx hb dX12_nextIn_0 rfl (lv_at hl 0 rfl) ?_
  refine mg_kids X hP dX12_nextIn_1 ?_
  refine lv_iload_n hx hb dX12_nextIn_4 rfl (lv_at hl 1 rfl) ?_
  obtain ⟨v1, hv1, h⟩ := ob h
  refine m_ald X hP hv1 dX12_nextIn_5 ?_
  refine lv_if_le (tgt := 19) hx hb dX12_nextIn_6 rfl (fun hc => ?_) (fun hc => ?_)
  · have h := ip hc h
    refine lv_iload_n hx hb dX12_nextIn_19 rfl (lv_at hl 1 rfl) ?_
    refine lv_istore_n hx hb dX12_nextIn_20 rfl hl (Nat.le_of_ble_eq_true rfl) rfl (fun ls (hl : lv_has ls 3 [(2, .int x1), (0, .ref mb), (1, .int x1)]) => ?_)
    exact N_nextIn_21 X hP (lv_sub hl [1, 0] rfl) h
  · have h := ine hc h
    refine lv_aload_n hx hb dX12_nextIn_9 rfl (lv_at hl 0 rfl) ?_
    refine mg_kid X hP dX12_nextIn_10 ?_
    refine lv_bipush (v := (30:Int32)) hx hb dX12_nextIn_13 (by decide) ?_
    refine lv_iload_n hx hb dX12_nextIn_15 rfl (lv_at hl 1 rfl) ?_
    refine lv_imul hx hb dX12_nextIn_16 ?_
    obtain ⟨v2, hv2, h⟩ := ob h
    refine m_ald X hP hv2 dX12_nextIn_17 ?_
    obtain rfl := sj h
    exact m_ri X dX12_nextIn_18
theorem cl_nextIn {p : Program} {l : Launch} {e : Env} {s : State} {m : MethodId} {args : Array Value} {below : List Frame} {meth : Method} {c : Code} {D : mD} {mb : Nat} {H : Heap} {locs : List Loc} {Q : State → Prop} {cc : ByteArray} {pc fR lR nL : Nat} {ls : Array Slot} {rest : List Value} {ret : Option FieldType} {σ : mS} (X : mX p s m args meth c cc nL ret D) (hP : mP D mb σ H) {x1 : Int32} {r : Int32} (h : f_nextIn x1 σ = some r) (hr : 2 + 1 ≤ fR ∧ 8 + (3 + 11) + 44 ≤ lR) (hl : ls.size = nL) (hW : (rest.map fun v => v.category).sum ≤ 8) (hdg : decode cc pc = .ok (.invokevirtual 254, 3)) (kk : W p l e (rM fR lR) s m args below meth c H locs 0 0 Q (F0 m (pc + 3) ls (.int r :: rest))) : W p l e (rM fR lR) s m args below meth c H locs 0 0 Q (F0 m pc ls (.int x1 :: .ref mb :: rest)) := m_cr (m_run (n := 1) X (K_nextIn l D mb σ x1 h) ⟨w_1922, w_1924, w_74, w_1925⟩ (hyX rfl (by decide +kernel)) rfl hr hP hl hW hdg rfl) kk
-- slot(II)I
def f_slot_57  (x3 : Int32) (σ : mS) : Option (Int32) := some x3
def f_slot_48 (k23 : Int32 → Int32 → Option (Int32)) (x2 : Int32) (x3 : Int32) (σ : mS) : Option (Int32) := (f_nextIn (x3) σ).bind (fun v1 => k23 (x2) (v1))
def f_slot_23  : Nat → Int32 → Int32 → mS → Option (Int32)
  | 0, _, _, _ => none
  | n + 1, x2, x3, σ => if x3 < (0:Int32) then (f_slot_57 (x3) σ) else ((rd σ 0 x3).bind (fun v1 => if v1 = (7:Int32) then ((rd σ 4 x3).bind (fun v2 => if v2 = x2 then (f_slot_57 (x3) σ) else (f_slot_48 (fun z0 z1 => f_slot_23 n z0 z1 σ) (x2) (x3) σ))) else (f_slot_48 (fun z0 z1 => f_slot_23 n z0 z1 σ) (x2) (x3) σ)))
def f_slot_22  (x2 : Int32) (y0 : Int32) (σ : mS) : Option (Int32) := f_slot_23 4000 (x2) (y0) σ
def f_slot (x1 : Int32) (x2 : Int32) (σ : mS) : Option (Int32) := (rd σ 12 x1).bind (fun v1 => if v1 ≤ (0:Int32) then (f_slot_22 (x2) (((-1):Int32)) σ) else ((rd σ 11 ((30:Int32) * x1)).bind (fun v2 => f_slot_22 (x2) (v2) σ)))
set_option maxRecDepth 20000 in
set_option maxHeartbeats 4000000 in
theorem N_slot_57 {p : Program} {l : Launch} {e : Env} {s : State} {m : MethodId} {args : Array Value} {below : List Frame} {meth : Method} {c : Code} {D : mD} {mb : Nat}   {x3 : Int32} {σ : mS} {ls : Array Slot} {r : Int32} (X : mX p s m args meth c cX12_slot 4 (some .int) D) (hP : mP D mb σ s.heap)  (hl : lv_has ls 4 [(0, .ref mb), (3, .int x3)]) (h : f_slot_57  x3 σ = some r) : mWr p l e 3 66 s m args below meth c (some (.int r)) (F0 m 57 ls []) := by
  have hx := X.1
  have hb := X.2.1
  have hown := X.2.2.2.1
  have hts := X.2.2.2.2.1
  have h : (some x3) = some r := h
  refine lv_iload_n hx hb dX12_slot_57 rfl (lv_at hl 1 rfl) ?_
  obtain rfl := sj h
  exact m_ri X dX12_slot_58
set_option maxRecDepth 20000 in
set_option maxHeartbeats 4000000 in
theorem N_slot_48 {p : Program} {l : Launch} {e : Env} {s : State} {m : MethodId} {args : Array Value} {below : List Frame} {meth : Method} {c : Code} {D : mD} {mb : Nat} {k23 : Int32 → Int32 → Option (Int32)}  {x2 : Int32} {x3 : Int32} {σ : mS} {ls : Array Slot} {r : Int32} (X : mX p s m args meth c cX12_slot 4 (some .int) D) (hP : mP D mb σ s.heap) (hk23 : ∀ {x2 : Int32} {x3 : Int32} {ls : Array Slot}, lv_has ls 4 [(0, .ref mb), (2, .int x2), (3, .int x3)] → k23 x2 x3 = some r → mWr p l e 3 66 s m args below meth c (some (.int r)) (F0 m 23 ls [])) (hl : lv_has ls 4 [(0, .ref mb), (2, .int x2), (3, .int x3)]) (h : f_slot_48 k23 x2 x3 σ = some r) : mWr p l e 3 66 s m args below meth c (some (.int r)) (F0 m 48 ls []) := by
  have hx := X.1
  have hb := X.2.1
  have hown := X.2.2.2.1
  have hts := X.2.2.2.2.1
  have h : ((f_nextIn (x3) σ).bind (fun v1 => k23 (x2) (v1))) = some r := h
  refine lv_aload_n hx hb dX12_slot_48 rfl (lv_at hl 0 rfl) ?_
  refine lv_iload_n hx hb dX12_slot_49 rfl (lv_at hl 2 rfl) ?_
  obtain ⟨v1, hv1, h⟩ := ob h
  refine cl_nextIn X hP hv1 ⟨Nat.le_of_ble_eq_true rfl, Nat.le_of_ble_eq_true rfl⟩ hl.1 (Nat.le_of_ble_eq_true rfl) dX12_slot_50 ?_
  refine lv_istore_n hx hb dX12_slot_53 rfl hl (Nat.le_of_ble_eq_true rfl) rfl (fun ls (hl : lv_has ls 4 [(3, .int v1), (0, .ref mb), (2, .int x2)]) => ?_)
  refine lv_goto (tgt := 23) hx hb dX12_slot_54 rfl ?_
  exact hk23 (lv_sub hl [1, 2, 0] rfl) h
set_option maxRecDepth 20000 in
set_option maxHeartbeats 4000000 in
theorem N_slot_23 {p : Program} {l : Launch} {e : Env} {s : State} {m : MethodId} {args : Array Value} {below : List Frame} {meth : Method} {c : Code} {D : mD} {mb : Nat}  {n : Nat} {x2 : Int32} {x3 : Int32} {σ : mS} {ls : Array Slot} {r : Int32} (X : mX p s m args meth c cX12_slot 4 (some .int) D) (hP : mP D mb σ s.heap)  (hl : lv_has ls 4 [(0, .ref mb), (2, .int x2), (3, .int x3)]) (h : f_slot_23  n x2 x3 σ = some r) : mWr p l e 3 66 s m args below meth c (some (.int r)) (F0 m 23 ls []) := by
  have hx := X.1
  have hb := X.2.1
  have hown := X.2.2.2.1
  have hts := X.2.2.2.2.1
  induction n generalizing x2 x3 ls with
  | zero => exact absurd (show none = some r from h) (by simp)
  | succ n ih =>
    have h : (if x3 < (0:Int32) then (f_slot_57 (x3) σ) else ((rd σ 0 x3).bind (fun v1 => if v1 = (7:Int32) then ((rd σ 4 x3).bind (fun v2 => if v2 = x2 then (f_slot_57 (x3) σ) else (f_slot_48 (fun z0 z1 => f_slot_23 n z0 z1 σ) (x2) (x3) σ))) else (f_slot_48 (fun z0 z1 => f_slot_23 n z0 z1 σ) (x2) (x3) σ)))) = some r := h
    refine lv_iload_n hx hb dX12_slot_23 rfl (lv_at hl 2 rfl) ?_
    refine lv_if_lt (tgt := 57) hx hb dX12_slot_24 rfl (fun hc => ?_) (fun hc => ?_)
    · have h := ip hc h
      exact N_slot_57 X hP (lv_sub hl [0, 2] rfl) h
    · have h := ine hc h
      refine lv_aload_n hx hb dX12_slot_27 rfl (lv_at hl 0 rfl) ?_
      refine mg_kind X hP dX12_slot_28 ?_
      refine lv_iload_n hx hb dX12_slot_31 rfl (lv_at hl 2 rfl) ?_
      obtain ⟨v1, hv1, h⟩ := ob h
      refine m_ald X hP hv1 dX12_slot_32 ?_
      refine lv_bipush (v := (7:Int32)) hx hb dX12_slot_33 (by decide) ?_
      refine lv_icmp_ne (tgt := 48) hx hb dX12_slot_35 rfl (fun hc => ?_) (fun hc => ?_)
      · have h := ine hc h
        exact N_slot_48 X hP ih (lv_sub hl [0, 1, 2] rfl) h
      · have h := ip hc h
        refine lv_aload_n hx hb dX12_slot_38 rfl (lv_at hl 0 rfl) ?_
        refine mg_at1 X hP dX12_slot_39 ?_
        refine lv_iload_n hx hb dX12_slot_42 rfl (lv_at hl 2 rfl) ?_
        obtain ⟨v2, hv2, h⟩ := ob h
        refine m_ald X hP hv2 dX12_slot_43 ?_
        refine lv_iload_n hx hb dX12_slot_44 rfl (lv_at hl 1 rfl) ?_
        refine lv_icmp_eq (tgt := 57) hx hb dX12_slot_45 rfl (fun hc => ?_) (fun hc => ?_)
        · have h := ip hc h
          exact N_slot_57 X hP (lv_sub hl [0, 2] rfl) h
        · have h := ine hc h
          exact N_slot_48 X hP ih (lv_sub hl [0, 1, 2] rfl) h
set_option maxRecDepth 20000 in
set_option maxHeartbeats 4000000 in
theorem N_slot_22 {p : Program} {l : Launch} {e : Env} {s : State} {m : MethodId} {args : Array Value} {below : List Frame} {meth : Method} {c : Code} {D : mD} {mb : Nat}   {x2 : Int32} {y0 : Int32} {σ : mS} {ls : Array Slot} {r : Int32} (X : mX p s m args meth c cX12_slot 4 (some .int) D) (hP : mP D mb σ s.heap)  (hl : lv_has ls 4 [(0, .ref mb), (2, .int x2)]) (h : f_slot_22  x2 y0 σ = some r) : mWr p l e 3 66 s m args below meth c (some (.int r)) (F0 m 22 ls [.int y0]) := by
  have hx := X.1
  have hb := X.2.1
  have hown := X.2.2.2.1
  have hts := X.2.2.2.2.1
  have h : (f_slot_23 4000 (x2) (y0) σ) = some r := h
  refine lv_istore_n hx hb dX12_slot_22 rfl hl (Nat.le_of_ble_eq_true rfl) rfl (fun ls (hl : lv_has ls 4 [(3, .int y0), (0, .ref mb), (2, .int x2)]) => ?_)
  exact N_slot_23 X hP (lv_sub hl [1, 2, 0] rfl) h
set_option maxRecDepth 20000 in
set_option maxHeartbeats 4000000 in
theorem K_slot (l : Launch) (D : mD) (mb : Nat) (σ : mS) (x1 : Int32) (x2 : Int32) {r : Int32} (h : f_slot x1 x2 σ = some r) : Met l yX12_slot (Cond.code yX12_slot cX12_slot 4 (some .int) :: BG) (rM 3 66) (mPc D mb σ [.int x1, .int x2]) (mQr (some (.int r))) 0 0 (fun _ => False) := by
  refine Met.ofW (cc := cX12_slot) (maxL := 4) (ret := (some .int)) (by decide) rfl ?_
  intro p e s m args below meth c s₁ B hml hv
  obtain ⟨rfl, hP, hK⟩ := hv
  have X := mX_of B hml rfl hK
  have hx := X.1
  have hb := X.2.1
  have hown := X.2.2.2.1
  have hts := X.2.2.2.2.1
  have hl := lv_entry (.ref mb :: [.int x1, .int x2]) (n := 4) (Nat.le_of_ble_eq_true rfl)
  rw [lg_entry_eq]
  generalize (lg_sl (.ref mb :: [.int x1, .int x2]) ++ List.replicate (4 - (lg_sl (.ref mb :: [.int x1, .int x2])).length) Slot.unset).toArray = ls at hl ⊢
  have hl : lv_has ls 4 [(0, .ref mb), (1, .int x1), (2, .int x2)] := hl
  show mWr p l e 3 66 s m (Value.ref mb :: [.int x1, .int x2]).toArray below meth c (some (.int r)) (F0 m 0 ls [])
  have h : ((rd σ 12 x1).bind (fun v1 => if v1 ≤ (0:Int32) then (f_slot_22 (x2) (((-1):Int32)) σ) else ((rd σ 11 ((30:Int32) * x1)).bind (fun v2 => f_slot_22 (x2) (v2) σ)))) = some r := h
  refine lv_aload_n hx hb dX12_slot_0 rfl (lv_at hl 0 rfl) ?_
  refine mg_tops X hP dX12_slot_1 ?_
  refine lv_iload_n hx hb dX12_slot_4 rfl (lv_at hl 1 rfl) ?_
  obtain ⟨v1, hv1, h⟩ := ob h
  refine m_ald X hP hv1 dX12_slot_5 ?_
  refine lv_if_le (tgt := 21) hx hb dX12_slot_6 rfl (fun hc => ?_) (fun hc => ?_)
  · have h := ip hc h
    refine lv_iconst (v := ((-1):Int32)) hx hb dX12_slot_21 (by decide) ?_
    exact N_slot_22 X hP (lv_sub hl [0, 2] rfl) h
  · have h := ine hc h
    refine lv_aload_n hx hb dX12_slot_9 rfl (lv_at hl 0 rfl) ?_
    refine mg_top X hP dX12_slot_10 ?_
    refine lv_bipush (v := (30:Int32)) hx hb dX12_slot_13 (by decide) ?_
    refine lv_iload_n hx hb dX12_slot_15 rfl (lv_at hl 1 rfl) ?_
    refine lv_imul hx hb dX12_slot_16 ?_
    obtain ⟨v2, hv2, h⟩ := ob h
    refine m_ald X hP hv2 dX12_slot_17 ?_
    refine lv_goto (tgt := 22) hx hb dX12_slot_18 rfl ?_
    exact N_slot_22 X hP (lv_sub hl [0, 2] rfl) h
theorem cl_slot {p : Program} {l : Launch} {e : Env} {s : State} {m : MethodId} {args : Array Value} {below : List Frame} {meth : Method} {c : Code} {D : mD} {mb : Nat} {H : Heap} {locs : List Loc} {Q : State → Prop} {cc : ByteArray} {pc fR lR nL : Nat} {ls : Array Slot} {rest : List Value} {ret : Option FieldType} {σ : mS} (X : mX p s m args meth c cc nL ret D) (hP : mP D mb σ H) {x1 : Int32} {x2 : Int32} {r : Int32} (h : f_slot x1 x2 σ = some r) (hr : 3 + 1 ≤ fR ∧ 8 + (4 + 11) + 66 ≤ lR) (hl : ls.size = nL) (hW : (rest.map fun v => v.category).sum ≤ 8) (hdg : decode cc pc = .ok (.invokevirtual 257, 3)) (kk : W p l e (rM fR lR) s m args below meth c H locs 0 0 Q (F0 m (pc + 3) ls (.int r :: rest))) : W p l e (rM fR lR) s m args below meth c H locs 0 0 Q (F0 m pc ls (.int x2 :: .int x1 :: .ref mb :: rest)) := m_cr (m_run (n := 2) X (K_slot l D mb σ x1 x2 h) ⟨w_1918, w_1920, w_73, w_1921⟩ (hyX rfl (by decide +kernel)) rfl hr hP hl hW hdg rfl) kk
-- shown(I)I
def f_shown_59  (x2 : Int32) (σ : mS) : Option (Int32) := some x2
def f_shown_58  (y0 : Int32) (σ : mS) : Option (Int32) := some y0
def f_shown (x1 : Int32) (σ : mS) : Option (Int32) := (rd σ 7 x1).bind (fun v1 => if v1 < (0:Int32) then ((rd σ 6 x1).bind (fun v2 => if v2 < (0:Int32) then (f_shown_59 (v2) σ) else ((rd σ 8 v2).bind (fun v3 => if v3 = (1:Int32) then ((rd σ 4 x1).bind (fun v4 => (f_slot (v2) (v4) σ).bind (fun v5 => if v5 < (0:Int32) then (f_shown_58 (v2) σ) else (f_shown_58 (v5) σ)))) else (f_shown_59 (v2) σ))))) else ((rd σ 7 x1).bind (fun v6 => some v6)))
set_option maxRecDepth 20000 in
set_option maxHeartbeats 4000000 in
theorem N_shown_59 {p : Program} {l : Launch} {e : Env} {s : State} {m : MethodId} {args : Array Value} {below : List Frame} {meth : Method} {c : Code} {D : mD} {mb : Nat}   {x2 : Int32} {σ : mS} {ls : Array Slot} {r : Int32} (X : mX p s m args meth c cX12_shown 4 (some .int) D) (hP : mP D mb σ s.heap)  (hl : lv_has ls 4 [(0, .ref mb), (2, .int x2)]) (h : f_shown_59  x2 σ = some r) : mWr p l e 4 89 s m args below meth c (some (.int r)) (F0 m 59 ls []) := by
  have hx := X.1
  have hb := X.2.1
  have hown := X.2.2.2.1
  have hts := X.2.2.2.2.1
  have h : (some x2) = some r := h
  refine lv_iload_n hx hb dX12_shown_59 rfl (lv_at hl 1 rfl) ?_
  obtain rfl := sj h
  exact m_ri X dX12_shown_60
set_option maxRecDepth 20000 in
set_option maxHeartbeats 4000000 in
theorem N_shown_58 {p : Program} {l : Launch} {e : Env} {s : State} {m : MethodId} {args : Array Value} {below : List Frame} {meth : Method} {c : Code} {D : mD} {mb : Nat}   {y0 : Int32} {σ : mS} {ls : Array Slot} {r : Int32} (X : mX p s m args meth c cX12_shown 4 (some .int) D) (hP : mP D mb σ s.heap)  (hl : lv_has ls 4 [(0, .ref mb)]) (h : f_shown_58  y0 σ = some r) : mWr p l e 4 89 s m args below meth c (some (.int r)) (F0 m 58 ls [.int y0]) := by
  have hx := X.1
  have hb := X.2.1
  have hown := X.2.2.2.1
  have hts := X.2.2.2.2.1
  have h : (some y0) = some r := h
  obtain rfl := sj h
  exact m_ri X dX12_shown_58
set_option maxRecDepth 20000 in
set_option maxHeartbeats 4000000 in
theorem K_shown (l : Launch) (D : mD) (mb : Nat) (σ : mS) (x1 : Int32) {r : Int32} (h : f_shown x1 σ = some r) : Met l yX12_shown (Cond.code yX12_shown cX12_shown 4 (some .int) :: BG) (rM 4 89) (mPc D mb σ [.int x1]) (mQr (some (.int r))) 0 0 (fun _ => False) := by
  refine Met.ofW (cc := cX12_shown) (maxL := 4) (ret := (some .int)) (by decide) rfl ?_
  intro p e s m args below meth c s₁ B hml hv
  obtain ⟨rfl, hP, hK⟩ := hv
  have X := mX_of B hml rfl hK
  have hx := X.1
  have hb := X.2.1
  have hown := X.2.2.2.1
  have hts := X.2.2.2.2.1
  have hl := lv_entry (.ref mb :: [.int x1]) (n := 4) (Nat.le_of_ble_eq_true rfl)
  rw [lg_entry_eq]
  generalize (lg_sl (.ref mb :: [.int x1]) ++ List.replicate (4 - (lg_sl (.ref mb :: [.int x1])).length) Slot.unset).toArray = ls at hl ⊢
  have hl : lv_has ls 4 [(0, .ref mb), (1, .int x1)] := hl
  show mWr p l e 4 89 s m (Value.ref mb :: [.int x1]).toArray below meth c (some (.int r)) (F0 m 0 ls [])
  have h : ((rd σ 7 x1).bind (fun v1 => if v1 < (0:Int32) then ((rd σ 6 x1).bind (fun v2 => if v2 < (0:Int32) then (f_shown_59 (v2) σ) else ((rd σ 8 v2).bind (fun v3 => if v3 = (1:Int32) then ((rd σ 4 x1).bind (fun v4 => (f_slot (v2) (v4) σ).bind (fun v5 => if v5 < (0:Int32) then (f_shown_58 (v2) σ) else (f_shown_58 (v5) σ)))) else (f_shown_59 (v2) σ))))) else ((rd σ 7 x1).bind (fun v6 => some v6)))) = some r := h
  refine lv_aload_n hx hb dX12_shown_0 rfl (lv_at hl 0 rfl) ?_
  refine mg_host X hP dX12_shown_1 ?_
  refine lv_iload_n hx hb dX12_shown_4 rfl (lv_at hl 1 rfl) ?_
  obtain ⟨v1, hv1, h⟩ := ob h
  refine m_ald X hP hv1 dX12_shown_5 ?_
  refine lv_if_lt (tgt := 16) hx hb dX12_shown_6 rfl (fun hc => ?_) (fun hc => ?_)
  · have h := ip hc h
    refine lv_aload_n hx hb dX12_shown_16 rfl (lv_at hl 0 rfl) ?_
    refine mg_parent X hP dX12_shown_17 ?_
    refine lv_iload_n hx hb dX12_shown_20 rfl (lv_at hl 1 rfl) ?_
    obtain ⟨v2, hv2, h⟩ := ob h
    refine m_ald X hP hv2 dX12_shown_21 ?_
    refine lv_istore_n hx hb dX12_shown_22 rfl hl (Nat.le_of_ble_eq_true rfl) rfl (fun ls (hl : lv_has ls 4 [(2, .int v2), (0, .ref mb), (1, .int x1)]) => ?_)
    refine lv_iload_n hx hb dX12_shown_23 rfl (lv_at hl 0 rfl) ?_
    refine lv_if_lt (tgt := 59) hx hb dX12_shown_24 rfl (fun hc => ?_) (fun hc => ?_)
    · have h := ip hc h
      exact N_shown_59 X hP (lv_sub hl [1, 0] rfl) h
    · have h := ine hc h
      refine lv_aload_n hx hb dX12_shown_27 rfl (lv_at hl 1 rfl) ?_
      refine mg_shadow X hP dX12_shown_28 ?_
      refine lv_iload_n hx hb dX12_shown_31 rfl (lv_at hl 0 rfl) ?_
      obtain ⟨v3, hv3, h⟩ := ob h
      refine m_ald X hP hv3 dX12_shown_32 ?_
      refine lv_iconst (v := (1:Int32)) hx hb dX12_shown_33 (by decide) ?_
      refine lv_icmp_ne (tgt := 59) hx hb dX12_shown_34 rfl (fun hc => ?_) (fun hc => ?_)
      · have h := ine hc h
        exact N_shown_59 X hP (lv_sub hl [1, 0] rfl) h
      · have h := ip hc h
        refine lv_aload_n hx hb dX12_shown_37 rfl (lv_at hl 1 rfl) ?_
        refine lv_iload_n hx hb dX12_shown_38 rfl (lv_at hl 0 rfl) ?_
        refine lv_aload_n hx hb dX12_shown_39 rfl (lv_at hl 1 rfl) ?_
        refine mg_at1 X hP dX12_shown_40 ?_
        refine lv_iload_n hx hb dX12_shown_43 rfl (lv_at hl 2 rfl) ?_
        obtain ⟨v4, hv4, h⟩ := ob h
        refine m_ald X hP hv4 dX12_shown_44 ?_
        obtain ⟨v5, hv5, h⟩ := ob h
        refine cl_slot X hP hv5 ⟨Nat.le_of_ble_eq_true rfl, Nat.le_of_ble_eq_true rfl⟩ hl.1 (Nat.le_of_ble_eq_true rfl) dX12_shown_45 ?_
        refine lv_istore_n hx hb dX12_shown_48 rfl hl (Nat.le_of_ble_eq_true rfl) rfl (fun ls (hl : lv_has ls 4 [(3, .int v5), (2, .int v2), (0, .ref mb), (1, .int x1)]) => ?_)
        refine lv_iload_n hx hb dX12_shown_49 rfl (lv_at hl 0 rfl) ?_
        refine lv_if_lt (tgt := 57) hx hb dX12_shown_50 rfl (fun hc => ?_) (fun hc => ?_)
        · have h := ip hc h
          refine lv_iload_n hx hb dX12_shown_57 rfl (lv_at hl 1 rfl) ?_
          exact N_shown_58 X hP (lv_sub hl [2] rfl) h
        · have h := ine hc h
          refine lv_iload_n hx hb dX12_shown_53 rfl (lv_at hl 0 rfl) ?_
          refine lv_goto (tgt := 58) hx hb dX12_shown_54 rfl ?_
          exact N_shown_58 X hP (lv_sub hl [2] rfl) h
  · have h := ine hc h
    refine lv_aload_n hx hb dX12_shown_9 rfl (lv_at hl 0 rfl) ?_
    refine mg_host X hP dX12_shown_10 ?_
    refine lv_iload_n hx hb dX12_shown_13 rfl (lv_at hl 1 rfl) ?_
    obtain ⟨v6, hv6, h⟩ := ob h
    refine m_ald X hP hv6 dX12_shown_14 ?_
    obtain rfl := sj h
    exact m_ri X dX12_shown_15
theorem cl_shown {p : Program} {l : Launch} {e : Env} {s : State} {m : MethodId} {args : Array Value} {below : List Frame} {meth : Method} {c : Code} {D : mD} {mb : Nat} {H : Heap} {locs : List Loc} {Q : State → Prop} {cc : ByteArray} {pc fR lR nL : Nat} {ls : Array Slot} {rest : List Value} {ret : Option FieldType} {σ : mS} (X : mX p s m args meth c cc nL ret D) (hP : mP D mb σ H) {x1 : Int32} {r : Int32} (h : f_shown x1 σ = some r) (hr : 4 + 1 ≤ fR ∧ 8 + (4 + 11) + 89 ≤ lR) (hl : ls.size = nL) (hW : (rest.map fun v => v.category).sum ≤ 8) (hdg : decode cc pc = .ok (.invokevirtual 268, 3)) (kk : W p l e (rM fR lR) s m args below meth c H locs 0 0 Q (F0 m (pc + 3) ls (.int r :: rest))) : W p l e (rM fR lR) s m args below meth c H locs 0 0 Q (F0 m pc ls (.int x1 :: .ref mb :: rest)) := m_cr (m_run (n := 1) X (K_shown l D mb σ x1 h) ⟨w_1914, w_1916, w_72, w_1917⟩ (hyX rfl (by decide +kernel)) rfl hr hP hl hW hdg rfl) kk
-- fanIn(II)V
def f_fanIn_29   (σ : mS) : Option (mS) := some σ
def f_fanIn (x1 : Int32) (x2 : Int32) (σ : mS) : Option (mS) := (f_shown (x1) σ).bind (fun v1 => if v1 = x2 then ((wr σ 78 (σ.2 79) x1).bind (fun s2 => f_fanIn_29 (sf s2 79 ((s2.2 79) + (1:Int32))))) else (f_fanIn_29 σ))
set_option maxRecDepth 20000 in
set_option maxHeartbeats 4000000 in
theorem N_fanIn_29 {p : Program} {l : Launch} {e : Env} {s : State} {m : MethodId} {args : Array Value} {below : List Frame} {meth : Method} {c : Code} {D : mD} {mb : Nat}    {σ : mS} {H : Heap} {locs : List Loc} {ls : Array Slot} {q : mS} (X : mX p s m args meth c cX12_fanIn 3 none D) (hP : mP D mb σ H) (hF : mF mb s.heap H locs)  (hl : lv_has ls 3 [(0, .ref mb)]) (h : f_fanIn_29   σ = some q) : mWw p l e 5 112 s m args below meth c D mb q none H locs (F0 m 29 ls []) := by
  have hx := X.1
  have hb := X.2.1
  have hown := X.2.2.2.1
  have hts := X.2.2.2.2.1
  have h : (some σ) = some q := h
  obtain rfl := sj h
  exact m_wv X hP hF dX12_fanIn_29
set_option maxRecDepth 20000 in
set_option maxHeartbeats 4000000 in
theorem K_fanIn (l : Launch) (D : mD) (mb : Nat) (σ : mS) (x1 : Int32) (x2 : Int32) {q : mS} (h : f_fanIn x1 x2 σ = some q) : Met l yX12_fanIn (Cond.code yX12_fanIn cX12_fanIn 3 none :: BG) (rM 5 112) (mPc D mb σ [.int x1, .int x2]) (mQw D mb q none) 0 0 (mReg mb) := by
  refine Met.ofW (cc := cX12_fanIn) (maxL := 3) (ret := none) (by decide) rfl ?_
  intro p e s m args below meth c s₁ B hml hv
  obtain ⟨rfl, hP, hK⟩ := hv
  have X := mX_of B hml rfl hK
  have hx := X.1
  have hb := X.2.1
  have hown := X.2.2.2.1
  have hts := X.2.2.2.2.1
  have hl := lv_entry (.ref mb :: [.int x1, .int x2]) (n := 3) (Nat.le_of_ble_eq_true rfl)
  rw [lg_entry_eq]
  generalize (lg_sl (.ref mb :: [.int x1, .int x2]) ++ List.replicate (3 - (lg_sl (.ref mb :: [.int x1, .int x2])).length) Slot.unset).toArray = ls at hl ⊢
  have hl : lv_has ls 3 [(0, .ref mb), (1, .int x1), (2, .int x2)] := hl
  have hF : mF mb s.heap s.heap [] := mF.rf
  show mWw p l e 5 112 s m (Value.ref mb :: [.int x1, .int x2]).toArray below meth c D mb q none s.heap [] (F0 m 0 ls [])
  have h : ((f_shown (x1) σ).bind (fun v1 => if v1 = x2 then ((wr σ 78 (σ.2 79) x1).bind (fun s2 => f_fanIn_29 (sf s2 79 ((s2.2 79) + (1:Int32))))) else (f_fanIn_29 σ))) = some q := h
  refine lv_aload_n hx hb dX12_fanIn_0 rfl (lv_at hl 0 rfl) ?_
  refine lv_iload_n hx hb dX12_fanIn_1 rfl (lv_at hl 1 rfl) ?_
  obtain ⟨v1, hv1, h⟩ := ob h
  refine cl_shown X hP hv1 ⟨Nat.le_of_ble_eq_true rfl, Nat.le_of_ble_eq_true rfl⟩ hl.1 (Nat.le_of_ble_eq_true rfl) dX12_fanIn_2 ?_
  refine lv_iload_n hx hb dX12_fanIn_5 rfl (lv_at hl 2 rfl) ?_
  refine lv_icmp_ne (tgt := 29) hx hb dX12_fanIn_6 rfl (fun hc => ?_) (fun hc => ?_)
  · have h := ine hc h
    exact N_fanIn_29 X hP hF (lv_sub hl [0] rfl) h
  · have h := ip hc h
    refine lv_aload_n hx hb dX12_fanIn_9 rfl (lv_at hl 0 rfl) ?_
    refine mg_fan X hP dX12_fanIn_10 ?_
    refine lv_aload_n hx hb dX12_fanIn_13 rfl (lv_at hl 0 rfl) ?_
    refine mg_fans X hP dX12_fanIn_14 ?_
    refine lv_iload_n hx hb dX12_fanIn_17 rfl (lv_at hl 1 rfl) ?_
    obtain ⟨s2, hs2, h⟩ := ob h
    refine m_ast X hP hF hs2 dX12_fanIn_18 (fun H locs hP hF => ?_)
    refine lv_aload_n hx hb dX12_fanIn_19 rfl (lv_at hl 0 rfl) ?_
    refine lv_dup hx hb dX12_fanIn_20 rfl ?_
    refine mg_fans X hP dX12_fanIn_21 ?_
    refine lv_iconst (v := (1:Int32)) hx hb dX12_fanIn_24 (by decide) ?_
    refine lv_iadd hx hb dX12_fanIn_25 ?_
    refine mp_fans X hP hF dX12_fanIn_26 (fun H locs hP hF => ?_)
    exact N_fanIn_29 X hP hF (lv_sub hl [0] rfl) h
theorem cl_fanIn {p : Program} {l : Launch} {e : Env} {s : State} {m : MethodId} {args : Array Value} {below : List Frame} {meth : Method} {c : Code} {D : mD} {mb : Nat} {H : Heap} {locs : List Loc} {Q : State → Prop} {cc : ByteArray} {pc fR lR nL : Nat} {ls : Array Slot} {rest : List Value} {ret : Option FieldType} {σ : mS} (X : mX p s m args meth c cc nL ret D) (hP : mP D mb σ H) (hF : mF mb s.heap H locs) {x1 : Int32} {x2 : Int32} {q : mS} (h : f_fanIn x1 x2 σ = some q) (hr : 5 + 1 ≤ fR ∧ 8 + (3 + 11) + 112 ≤ lR) (hl : ls.size = nL) (hW : (rest.map fun v => v.category).sum ≤ 8) (hdg : decode cc pc = .ok (.invokevirtual 264, 3)) (kk : ∀ (H1 : Heap) (locs1 : List Loc), mP D mb q H1 → mF mb s.heap H1 locs1 → W p l e (rM fR lR) s m args below meth c H1 locs1 0 0 Q (F0 m (pc + 3) ls rest)) : W p l e (rM fR lR) s m args below meth c H locs 0 0 Q (F0 m pc ls (.int x2 :: .int x1 :: .ref mb :: rest)) := m_cv (m_run (n := 2) X (K_fanIn l D mb σ x1 x2 h) ⟨w_2151, w_2153, w_108, w_2154⟩ (hyX rfl (by decide +kernel)) rfl hr hP hl hW hdg rfl) hF kk
-- fanOf(I)V
def f_fanOf_96  : Nat → Int32 → Int32 → mS → Option (mS)
  | 0, _, _, _ => none
  | n + 1, x1, x3, σ => (rd σ 10 x1).bind (fun v1 => if v1 ≤ x3 then (some σ) else ((rd σ 9 (((30:Int32) * x1) + x3)).bind (fun v2 => (f_fanIn (v2) (x1) σ).bind (fun v3 => f_fanOf_96 n (x1) ((x3 + (1:Int32))) v3))))
def f_fanOf_62  : Nat → Int32 → Int32 → mS → Option (mS)
  | 0, _, _, _ => none
  | n + 1, x1, x3, σ => (rd σ 12 x1).bind (fun v1 => if v1 ≤ x3 then (f_fanOf_96 4000 (x1) ((0:Int32)) σ) else ((rd σ 11 (((30:Int32) * x1) + x3)).bind (fun v2 => (f_fanIn (v2) (x1) σ).bind (fun v3 => f_fanOf_62 n (x1) ((x3 + (1:Int32))) v3))))
def f_fanOf_60  (x1 : Int32) (σ : mS) : Option (mS) := f_fanOf_62 4000 (x1) ((0:Int32)) σ
def f_fanOf_28  : Nat → Int32 → Int32 → Int32 → mS → Option (mS)
  | 0, _, _, _, _ => none
  | n + 1, x1, x2, x3, σ => (rd σ 10 x2).bind (fun v1 => if v1 ≤ x3 then (f_fanOf_60 (x1) σ) else ((rd σ 9 (((30:Int32) * x2) + x3)).bind (fun v2 => (f_fanIn (v2) (x1) σ).bind (fun v3 => f_fanOf_28 n (x1) (x2) ((x3 + (1:Int32))) v3))))
def f_fanOf (x1 : Int32) (σ : mS) : Option (mS) := (f_treeOf (x1) σ).bind (fun v1 => if v1 < (0:Int32) then (f_fanOf_60 (x1) (sf σ 79 (0:Int32))) else ((rd (sf σ 79 (0:Int32)) 0 x1).bind (fun v2 => if v2 = (7:Int32) then (f_fanOf_28 4000 (x1) (v1) ((0:Int32)) (sf σ 79 (0:Int32))) else (f_fanOf_60 (x1) (sf σ 79 (0:Int32))))))
set_option maxRecDepth 20000 in
set_option maxHeartbeats 4000000 in
theorem N_fanOf_96 {p : Program} {l : Launch} {e : Env} {s : State} {m : MethodId} {args : Array Value} {below : List Frame} {meth : Method} {c : Code} {D : mD} {mb : Nat}  {n : Nat} {x1 : Int32} {x3 : Int32} {σ : mS} {H : Heap} {locs : List Loc} {ls : Array Slot} {q : mS} (X : mX p s m args meth c cX12_fanOf 4 none D) (hP : mP D mb σ H) (hF : mF mb s.heap H locs)  (hl : lv_has ls 4 [(0, .ref mb), (1, .int x1), (3, .int x3)]) (h : f_fanOf_96  n x1 x3 σ = some q) : mWw p l e 6 134 s m args below meth c D mb q none H locs (F0 m 96 ls []) := by
  have hx := X.1
  have hb := X.2.1
  have hown := X.2.2.2.1
  have hts := X.2.2.2.2.1
  induction n generalizing x1 x3 σ H locs ls with
  | zero => exact absurd (show none = some q from h) (by simp)
  | succ n ih =>
    have h : ((rd σ 10 x1).bind (fun v1 => if v1 ≤ x3 then (some σ) else ((rd σ 9 (((30:Int32) * x1) + x3)).bind (fun v2 => (f_fanIn (v2) (x1) σ).bind (fun v3 => f_fanOf_96 n (x1) ((x3 + (1:Int32))) v3))))) = some q := h
    refine lv_iload_n hx hb dX12_fanOf_96 rfl (lv_at hl 2 rfl) ?_
    refine lv_aload_n hx hb dX12_fanOf_97 rfl (lv_at hl 0 rfl) ?_
    refine mg_kids X hP dX12_fanOf_98 ?_
    refine lv_iload_n hx hb dX12_fanOf_101 rfl (lv_at hl 1 rfl) ?_
    obtain ⟨v1, hv1, h⟩ := ob h
    refine m_ald X hP hv1 dX12_fanOf_102 ?_
    refine lv_icmp_ge (tgt := 128) hx hb dX12_fanOf_103 rfl (fun hc => ?_) (fun hc => ?_)
    · have h := ip hc h
      obtain rfl := sj h
      exact m_wv X hP hF dX12_fanOf_128
    · have h := ine hc h
      refine lv_aload_n hx hb dX12_fanOf_106 rfl (lv_at hl 0 rfl) ?_
      refine lv_aload_n hx hb dX12_fanOf_107 rfl (lv_at hl 0 rfl) ?_
      refine mg_kid X hP dX12_fanOf_108 ?_
      refine lv_bipush (v := (30:Int32)) hx hb dX12_fanOf_111 (by decide) ?_
      refine lv_iload_n hx hb dX12_fanOf_113 rfl (lv_at hl 1 rfl) ?_
      refine lv_imul hx hb dX12_fanOf_114 ?_
      refine lv_iload_n hx hb dX12_fanOf_115 rfl (lv_at hl 2 rfl) ?_
      refine lv_iadd hx hb dX12_fanOf_116 ?_
      obtain ⟨v2, hv2, h⟩ := ob h
      refine m_ald X hP hv2 dX12_fanOf_117 ?_
      refine lv_iload_n hx hb dX12_fanOf_118 rfl (lv_at hl 1 rfl) ?_
      obtain ⟨v3, hv3, h⟩ := ob h
      refine cl_fanIn X hP hF hv3 ⟨Nat.le_of_ble_eq_true rfl, Nat.le_of_ble_eq_true rfl⟩ hl.1 (Nat.le_of_ble_eq_true rfl) dX12_fanOf_119 (fun H locs hP hF => ?_)
      refine lv_iinc (v := (x3 + (1:Int32))) hx hb dX12_fanOf_122 hl (k := 2) rfl rfl (Nat.le_of_ble_eq_true rfl) rfl (fun ls (hl : lv_has ls 4 [(3, .int (x3 + (1:Int32))), (0, .ref mb), (1, .int x1)]) => ?_)
      refine lv_goto (tgt := 96) hx hb dX12_fanOf_125 rfl ?_
      exact ih hP hF (lv_sub hl [1, 2, 0] rfl) h
set_option maxRecDepth 20000 in
set_option maxHeartbeats 4000000 in
theorem N_fanOf_62 {p : Program} {l : Launch} {e : Env} {s : State} {m : MethodId} {args : Array Value} {below : List Frame} {meth : Method} {c : Code} {D : mD} {mb : Nat}  {n : Nat} {x1 : Int32} {x3 : Int32} {σ : mS} {H : Heap} {locs : List Loc} {ls : Array Slot} {q : mS} (X : mX p s m args meth c cX12_fanOf 4 none D) (hP : mP D mb σ H) (hF : mF mb s.heap H locs)  (hl : lv_has ls 4 [(0, .ref mb), (1, .int x1), (3, .int x3)]) (h : f_fanOf_62  n x1 x3 σ = some q) : mWw p l e 6 134 s m args below meth c D mb q none H locs (F0 m 62 ls []) := by
  have hx := X.1
  have hb := X.2.1
  have hown := X.2.2.2.1
  have hts := X.2.2.2.2.1
  induction n generalizing x1 x3 σ H locs ls with
  | zero => exact absurd (show none = some q from h) (by simp)
  | succ n ih =>
    have h : ((rd σ 12 x1).bind (fun v1 => if v1 ≤ x3 then (f_fanOf_96 4000 (x1) ((0:Int32)) σ) else ((rd σ 11 (((30:Int32) * x1) + x3)).bind (fun v2 => (f_fanIn (v2) (x1) σ).bind (fun v3 => f_fanOf_62 n (x1) ((x3 + (1:Int32))) v3))))) = some q := h
    refine lv_iload_n hx hb dX12_fanOf_62 rfl (lv_at hl 2 rfl) ?_
    refine lv_aload_n hx hb dX12_fanOf_63 rfl (lv_at hl 0 rfl) ?_
    refine mg_tops X hP dX12_fanOf_64 ?_
    refine lv_iload_n hx hb dX12_fanOf_67 rfl (lv_at hl 1 rfl) ?_
    obtain ⟨v1, hv1, h⟩ := ob h
    refine m_ald X hP hv1 dX12_fanOf_68 ?_
    refine lv_icmp_ge (tgt := 94) hx hb dX12_fanOf_69 rfl (fun hc => ?_) (fun hc => ?_)
    · have h := ip hc h
      refine lv_iconst (v := (0:Int32)) hx hb dX12_fanOf_94 (by decide) ?_
      refine lv_istore_n hx hb dX12_fanOf_95 rfl hl (Nat.le_of_ble_eq_true rfl) rfl (fun ls (hl : lv_has ls 4 [(3, .int (0:Int32)), (0, .ref mb), (1, .int x1)]) => ?_)
      exact N_fanOf_96 X hP hF (lv_sub hl [1, 2, 0] rfl) h
    · have h := ine hc h
      refine lv_aload_n hx hb dX12_fanOf_72 rfl (lv_at hl 0 rfl) ?_
      refine lv_aload_n hx hb dX12_fanOf_73 rfl (lv_at hl 0 rfl) ?_
      refine mg_top X hP dX12_fanOf_74 ?_
      refine lv_bipush (v := (30:Int32)) hx hb dX12_fanOf_77 (by decide) ?_
      refine lv_iload_n hx hb dX12_fanOf_79 rfl (lv_at hl 1 rfl) ?_
      refine lv_imul hx hb dX12_fanOf_80 ?_
      refine lv_iload_n hx hb dX12_fanOf_81 rfl (lv_at hl 2 rfl) ?_
      refine lv_iadd hx hb dX12_fanOf_82 ?_
      obtain ⟨v2, hv2, h⟩ := ob h
      refine m_ald X hP hv2 dX12_fanOf_83 ?_
      refine lv_iload_n hx hb dX12_fanOf_84 rfl (lv_at hl 1 rfl) ?_
      obtain ⟨v3, hv3, h⟩ := ob h
      refine cl_fanIn X hP hF hv3 ⟨Nat.le_of_ble_eq_true rfl, Nat.le_of_ble_eq_true rfl⟩ hl.1 (Nat.le_of_ble_eq_true rfl) dX12_fanOf_85 (fun H locs hP hF => ?_)
      refine lv_iinc (v := (x3 + (1:Int32))) hx hb dX12_fanOf_88 hl (k := 2) rfl rfl (Nat.le_of_ble_eq_true rfl) rfl (fun ls (hl : lv_has ls 4 [(3, .int (x3 + (1:Int32))), (0, .ref mb), (1, .int x1)]) => ?_)
      refine lv_goto (tgt := 62) hx hb dX12_fanOf_91 rfl ?_
      exact ih hP hF (lv_sub hl [1, 2, 0] rfl) h
set_option maxRecDepth 20000 in
set_option maxHeartbeats 4000000 in
theorem N_fanOf_60 {p : Program} {l : Launch} {e : Env} {s : State} {m : MethodId} {args : Array Value} {below : List Frame} {meth : Method} {c : Code} {D : mD} {mb : Nat}   {x1 : Int32} {σ : mS} {H : Heap} {locs : List Loc} {ls : Array Slot} {q : mS} (X : mX p s m args meth c cX12_fanOf 4 none D) (hP : mP D mb σ H) (hF : mF mb s.heap H locs)  (hl : lv_has ls 4 [(0, .ref mb), (1, .int x1)]) (h : f_fanOf_60  x1 σ = some q) : mWw p l e 6 134 s m args below meth c D mb q none H locs (F0 m 60 ls []) := by
  have hx := X.1
  have hb := X.2.1
  have hown := X.2.2.2.1
  have hts := X.2.2.2.2.1
  have h : (f_fanOf_62 4000 (x1) ((0:Int32)) σ) = some q := h
  refine lv_iconst (v := (0:Int32)) hx hb dX12_fanOf_60 (by decide) ?_
  refine lv_istore_n hx hb dX12_fanOf_61 rfl hl (Nat.le_of_ble_eq_true rfl) rfl (fun ls (hl : lv_has ls 4 [(3, .int (0:Int32)), (0, .ref mb), (1, .int x1)]) => ?_)
  exact N_fanOf_62 X hP hF (lv_sub hl [1, 2, 0] rfl) h
set_option maxRecDepth 20000 in
set_option maxHeartbeats 4000000 in
theorem N_fanOf_28 {p : Program} {l : Launch} {e : Env} {s : State} {m : MethodId} {args : Array Value} {below : List Frame} {meth : Method} {c : Code} {D : mD} {mb : Nat}  {n : Nat} {x1 : Int32} {x2 : Int32} {x3 : Int32} {σ : mS} {H : Heap} {locs : List Loc} {ls : Array Slot} {q : mS} (X : mX p s m args meth c cX12_fanOf 4 none D) (hP : mP D mb σ H) (hF : mF mb s.heap H locs)  (hl : lv_has ls 4 [(0, .ref mb), (1, .int x1), (2, .int x2), (3, .int x3)]) (h : f_fanOf_28  n x1 x2 x3 σ = some q) : mWw p l e 6 134 s m args below meth c D mb q none H locs (F0 m 28 ls []) := by
  have hx := X.1
  have hb := X.2.1
  have hown := X.2.2.2.1
  have hts := X.2.2.2.2.1
  induction n generalizing x1 x2 x3 σ H locs ls with
  | zero => exact absurd (show none = some q from h) (by simp)
  | succ n ih =>
    have h : ((rd σ 10 x2).bind (fun v1 => if v1 ≤ x3 then (f_fanOf_60 (x1) σ) else ((rd σ 9 (((30:Int32) * x2) + x3)).bind (fun v2 => (f_fanIn (v2) (x1) σ).bind (fun v3 => f_fanOf_28 n (x1) (x2) ((x3 + (1:Int32))) v3))))) = some q := h
    refine lv_iload_n hx hb dX12_fanOf_28 rfl (lv_at hl 3 rfl) ?_
    refine lv_aload_n hx hb dX12_fanOf_29 rfl (lv_at hl 0 rfl) ?_
    refine mg_kids X hP dX12_fanOf_30 ?_
    refine lv_iload_n hx hb dX12_fanOf_33 rfl (lv_at hl 2 rfl) ?_
    obtain ⟨v1, hv1, h⟩ := ob h
    refine m_ald X hP hv1 dX12_fanOf_34 ?_
    refine lv_icmp_ge (tgt := 60) hx hb dX12_fanOf_35 rfl (fun hc => ?_) (fun hc => ?_)
    · have h := ip hc h
      exact N_fanOf_60 X hP hF (lv_sub hl [0, 1] rfl) h
    · have h := ine hc h
      refine lv_aload_n hx hb dX12_fanOf_38 rfl (lv_at hl 0 rfl) ?_
      refine lv_aload_n hx hb dX12_fanOf_39 rfl (lv_at hl 0 rfl) ?_
      refine mg_kid X hP dX12_fanOf_40 ?_
      refine lv_bipush (v := (30:Int32)) hx hb dX12_fanOf_43 (by decide) ?_
      refine lv_iload_n hx hb dX12_fanOf_45 rfl (lv_at hl 2 rfl) ?_
      refine lv_imul hx hb dX12_fanOf_46 ?_
      refine lv_iload_n hx hb dX12_fanOf_47 rfl (lv_at hl 3 rfl) ?_
      refine lv_iadd hx hb dX12_fanOf_48 ?_
      obtain ⟨v2, hv2, h⟩ := ob h
      refine m_ald X hP hv2 dX12_fanOf_49 ?_
      refine lv_iload_n hx hb dX12_fanOf_50 rfl (lv_at hl 1 rfl) ?_
      obtain ⟨v3, hv3, h⟩ := ob h
      refine cl_fanIn X hP hF hv3 ⟨Nat.le_of_ble_eq_true rfl, Nat.le_of_ble_eq_true rfl⟩ hl.1 (Nat.le_of_ble_eq_true rfl) dX12_fanOf_51 (fun H locs hP hF => ?_)
      refine lv_iinc (v := (x3 + (1:Int32))) hx hb dX12_fanOf_54 hl (k := 3) rfl rfl (Nat.le_of_ble_eq_true rfl) rfl (fun ls (hl : lv_has ls 4 [(3, .int (x3 + (1:Int32))), (0, .ref mb), (1, .int x1), (2, .int x2)]) => ?_)
      refine lv_goto (tgt := 28) hx hb dX12_fanOf_57 rfl ?_
      exact ih hP hF (lv_sub hl [1, 2, 3, 0] rfl) h
set_option maxRecDepth 20000 in
set_option maxHeartbeats 4000000 in
theorem K_fanOf (l : Launch) (D : mD) (mb : Nat) (σ : mS) (x1 : Int32) {q : mS} (h : f_fanOf x1 σ = some q) : Met l yX12_fanOf (Cond.code yX12_fanOf cX12_fanOf 4 none :: BG) (rM 6 134) (mPc D mb σ [.int x1]) (mQw D mb q none) 0 0 (mReg mb) := by
  refine Met.ofW (cc := cX12_fanOf) (maxL := 4) (ret := none) (by decide) rfl ?_
  intro p e s m args below meth c s₁ B hml hv
  obtain ⟨rfl, hP, hK⟩ := hv
  have X := mX_of B hml rfl hK
  have hx := X.1
  have hb := X.2.1
  have hown := X.2.2.2.1
  have hts := X.2.2.2.2.1
  have hl := lv_entry (.ref mb :: [.int x1]) (n := 4) (Nat.le_of_ble_eq_true rfl)
  rw [lg_entry_eq]
  generalize (lg_sl (.ref mb :: [.int x1]) ++ List.replicate (4 - (lg_sl (.ref mb :: [.int x1])).length) Slot.unset).toArray = ls at hl ⊢
  have hl : lv_has ls 4 [(0, .ref mb), (1, .int x1)] := hl
  have hF : mF mb s.heap s.heap [] := mF.rf
  show mWw p l e 6 134 s m (Value.ref mb :: [.int x1]).toArray below meth c D mb q none s.heap [] (F0 m 0 ls [])
  have h : ((f_treeOf (x1) σ).bind (fun v1 => if v1 < (0:Int32) then (f_fanOf_60 (x1) (sf σ 79 (0:Int32))) else ((rd (sf σ 79 (0:Int32)) 0 x1).bind (fun v2 => if v2 = (7:Int32) then (f_fanOf_28 4000 (x1) (v1) ((0:Int32)) (sf σ 79 (0:Int32))) else (f_fanOf_60 (x1) (sf σ 79 (0:Int32))))))) = some q := h
  refine lv_aload_n hx hb dX12_fanOf_0 rfl (lv_at hl 0 rfl) ?_
  refine lv_iload_n hx hb dX12_fanOf_1 rfl (lv_at hl 1 rfl) ?_
  obtain ⟨v1, hv1, h⟩ := ob h
  refine cl_treeOf X hP hv1 ⟨Nat.le_of_ble_eq_true rfl, Nat.le_of_ble_eq_true rfl⟩ hl.1 (Nat.le_of_ble_eq_true rfl) dX12_fanOf_2 ?_
  refine lv_istore_n hx hb dX12_fanOf_5 rfl hl (Nat.le_of_ble_eq_true rfl) rfl (fun ls (hl : lv_has ls 4 [(2, .int v1), (0, .ref mb), (1, .int x1)]) => ?_)
  refine lv_aload_n hx hb dX12_fanOf_6 rfl (lv_at hl 1 rfl) ?_
  refine lv_iconst (v := (0:Int32)) hx hb dX12_fanOf_7 (by decide) ?_
  refine mp_fans X hP hF dX12_fanOf_8 (fun H locs hP hF => ?_)
  refine lv_iload_n hx hb dX12_fanOf_11 rfl (lv_at hl 0 rfl) ?_
  refine lv_if_lt (tgt := 60) hx hb dX12_fanOf_12 rfl (fun hc => ?_) (fun hc => ?_)
  · have h := ip hc h
    exact N_fanOf_60 X hP hF (lv_sub hl [1, 2] rfl) h
  · have h := ine hc h
    refine lv_aload_n hx hb dX12_fanOf_15 rfl (lv_at hl 1 rfl) ?_
    refine mg_kind X hP dX12_fanOf_16 ?_
    refine lv_iload_n hx hb dX12_fanOf_19 rfl (lv_at hl 2 rfl) ?_
    obtain ⟨v2, hv2, h⟩ := ob h
    refine m_ald X hP hv2 dX12_fanOf_20 ?_
    refine lv_bipush (v := (7:Int32)) hx hb dX12_fanOf_21 (by decide) ?_
    refine lv_icmp_ne (tgt := 60) hx hb dX12_fanOf_23 rfl (fun hc => ?_) (fun hc => ?_)
    · have h := ine hc h
      exact N_fanOf_60 X hP hF (lv_sub hl [1, 2] rfl) h
    · have h := ip hc h
      refine lv_iconst (v := (0:Int32)) hx hb dX12_fanOf_26 (by decide) ?_
      refine lv_istore_n hx hb dX12_fanOf_27 rfl hl (Nat.le_of_ble_eq_true rfl) rfl (fun ls (hl : lv_has ls 4 [(3, .int (0:Int32)), (2, .int v1), (0, .ref mb), (1, .int x1)]) => ?_)
      exact N_fanOf_28 X hP hF (lv_sub hl [2, 3, 1, 0] rfl) h
theorem cl_fanOf {p : Program} {l : Launch} {e : Env} {s : State} {m : MethodId} {args : Array Value} {below : List Frame} {meth : Method} {c : Code} {D : mD} {mb : Nat} {H : Heap} {locs : List Loc} {Q : State → Prop} {cc : ByteArray} {pc fR lR nL : Nat} {ls : Array Slot} {rest : List Value} {ret : Option FieldType} {σ : mS} (X : mX p s m args meth c cc nL ret D) (hP : mP D mb σ H) (hF : mF mb s.heap H locs) {x1 : Int32} {q : mS} (h : f_fanOf x1 σ = some q) (hr : 6 + 1 ≤ fR ∧ 8 + (4 + 11) + 134 ≤ lR) (hl : ls.size = nL) (hW : (rest.map fun v => v.category).sum ≤ 8) (hdg : decode cc pc = .ok (.invokevirtual 274, 3)) (kk : ∀ (H1 : Heap) (locs1 : List Loc), mP D mb q H1 → mF mb s.heap H1 locs1 → W p l e (rM fR lR) s m args below meth c H1 locs1 0 0 Q (F0 m (pc + 3) ls rest)) : W p l e (rM fR lR) s m args below meth c H locs 0 0 Q (F0 m pc ls (.int x1 :: .ref mb :: rest)) := m_cv (m_run (n := 1) X (K_fanOf l D mb σ x1 h) ⟨w_2147, w_2149, w_107, w_2150⟩ (hyX rfl (by decide +kernel)) rfl hr hP hl hW hdg rfl) hF kk
-- ordered()V
def f_ordered_87 (k41 : Int32 → mS → Option (mS)) : Nat → Int32 → Int32 → mS → Option (mS)
  | 0, _, _, _ => none
  | n + 1, x1, x3, σ => if x3 < (0:Int32) then (k41 (x1) σ) else ((rd σ 78 x3).bind (fun v1 => (wr σ 80 x1 v1).bind (fun s2 => f_ordered_87 k41 n ((x1 + (1:Int32))) ((x3 + ((-1):Int32))) s2)))
def f_ordered_41  : Nat → Int32 → mS → Option (mS)
  | 0, _, _ => none
  | n + 1, x1, σ => if x1 ≤ (0:Int32) then (some σ) else ((rd σ 80 (x1 + ((-1):Int32))).bind (fun v1 => (wr σ 75 (σ.2 76) v1).bind (fun s2 => (f_fanOf (v1) (sf s2 76 ((s2.2 76) + (1:Int32)))).bind (fun v3 => f_ordered_87 (f_ordered_41 n) 4000 ((x1 + ((-1):Int32))) (((v3.2 79) - (1:Int32))) v3))))
def f_ordered_2  : Nat → Int32 → mS → Option (mS)
  | 0, _, _ => none
  | n + 1, x1, σ => if (σ.2 13) ≤ x1 then ((wr (sf σ 76 (0:Int32)) 80 (0:Int32) (0:Int32)).bind (fun s1 => f_ordered_41 4000 ((1:Int32)) s1)) else ((f_shown (x1) σ).bind (fun v2 => (wr σ 77 x1 v2).bind (fun s3 => f_ordered_2 n ((x1 + (1:Int32))) s3)))
def f_ordered  (σ : mS) : Option (mS) := f_ordered_2 4000 ((0:Int32)) σ
set_option maxRecDepth 20000 in
set_option maxHeartbeats 4000000 in
theorem N_ordered_87 {p : Program} {l : Launch} {e : Env} {s : State} {m : MethodId} {args : Array Value} {below : List Frame} {meth : Method} {c : Code} {D : mD} {mb : Nat} {k41 : Int32 → mS → Option (mS)} {n : Nat} {x1 : Int32} {x3 : Int32} {σ : mS} {H : Heap} {locs : List Loc} {ls : Array Slot} {q : mS} (X : mX p s m args meth c cX12_ordered 4 none D) (hP : mP D mb σ H) (hF : mF mb s.heap H locs) (hk41 : ∀ {x1 : Int32} {σ : mS} {H : Heap} {locs : List Loc} {ls : Array Slot}, mP D mb σ H → mF mb s.heap H locs → lv_has ls 4 [(0, .ref mb), (1, .int x1)] → k41 x1 σ = some q → mWw p l e 7 157 s m args below meth c D mb q none H locs (F0 m 41 ls [])) (hl : lv_has ls 4 [(0, .ref mb), (1, .int x1), (3, .int x3)]) (h : f_ordered_87 k41 n x1 x3 σ = some q) : mWw p l e 7 157 s m args below meth c D mb q none H locs (F0 m 87 ls []) := by
  have hx := X.1
  have hb := X.2.1
  have hown := X.2.2.2.1
  have hts := X.2.2.2.2.1
  induction n generalizing x1 x3 σ H locs ls with
  | zero => exact absurd (show none = some q from h) (by simp)
  | succ n ih =>
    have h : (if x3 < (0:Int32) then (k41 (x1) σ) else ((rd σ 78 x3).bind (fun v1 => (wr σ 80 x1 v1).bind (fun s2 => f_ordered_87 k41 n ((x1 + (1:Int32))) ((x3 + ((-1):Int32))) s2)))) = some q := h
    refine lv_iload_n hx hb dX12_ordered_87 rfl (lv_at hl 2 rfl) ?_
    refine lv_if_lt (tgt := 112) hx hb dX12_ordered_88 rfl (fun hc => ?_) (fun hc => ?_)
    · have h := ip hc h
      refine lv_goto (tgt := 41) hx hb dX12_ordered_112 rfl ?_
      exact hk41 hP hF (lv_sub hl [0, 1] rfl) h
    · have h := ine hc h
      refine lv_aload_n hx hb dX12_ordered_91 rfl (lv_at hl 0 rfl) ?_
      refine mg_pile X hP dX12_ordered_92 ?_
      refine lv_iload_n hx hb dX12_ordered_95 rfl (lv_at hl 1 rfl) ?_
      refine lv_aload_n hx hb dX12_ordered_96 rfl (lv_at hl 0 rfl) ?_
      refine mg_fan X hP dX12_ordered_97 ?_
      refine lv_iload_n hx hb dX12_ordered_100 rfl (lv_at hl 2 rfl) ?_
      obtain ⟨v1, hv1, h⟩ := ob h
      refine m_ald X hP hv1 dX12_ordered_101 ?_
      obtain ⟨s2, hs2, h⟩ := ob h
      refine m_ast X hP hF hs2 dX12_ordered_102 (fun H locs hP hF => ?_)
      refine lv_iinc (v := (x1 + (1:Int32))) hx hb dX12_ordered_103 hl (k := 1) rfl rfl (Nat.le_of_ble_eq_true rfl) rfl (fun ls (hl : lv_has ls 4 [(1, .int (x1 + (1:Int32))), (0, .ref mb), (3, .int x3)]) => ?_)
      refine lv_iinc (v := (x3 + ((-1):Int32))) hx hb dX12_ordered_106 hl (k := 2) rfl rfl (Nat.le_of_ble_eq_true rfl) rfl (fun ls (hl : lv_has ls 4 [(3, .int (x3 + ((-1):Int32))), (1, .int (x1 + (1:Int32))), (0, .ref mb)]) => ?_)
      refine lv_goto (tgt := 87) hx hb dX12_ordered_109 rfl ?_
      exact ih hP hF (lv_sub hl [2, 1, 0] rfl) h
set_option maxRecDepth 20000 in
set_option maxHeartbeats 4000000 in
theorem N_ordered_41 {p : Program} {l : Launch} {e : Env} {s : State} {m : MethodId} {args : Array Value} {below : List Frame} {meth : Method} {c : Code} {D : mD} {mb : Nat}  {n : Nat} {x1 : Int32} {σ : mS} {H : Heap} {locs : List Loc} {ls : Array Slot} {q : mS} (X : mX p s m args meth c cX12_ordered 4 none D) (hP : mP D mb σ H) (hF : mF mb s.heap H locs)  (hl : lv_has ls 4 [(0, .ref mb), (1, .int x1)]) (h : f_ordered_41  n x1 σ = some q) : mWw p l e 7 157 s m args below meth c D mb q none H locs (F0 m 41 ls []) := by
  have hx := X.1
  have hb := X.2.1
  have hown := X.2.2.2.1
  have hts := X.2.2.2.2.1
  induction n generalizing x1 σ H locs ls with
  | zero => exact absurd (show none = some q from h) (by simp)
  | succ n ih =>
    have h : (if x1 ≤ (0:Int32) then (some σ) else ((rd σ 80 (x1 + ((-1):Int32))).bind (fun v1 => (wr σ 75 (σ.2 76) v1).bind (fun s2 => (f_fanOf (v1) (sf s2 76 ((s2.2 76) + (1:Int32)))).bind (fun v3 => f_ordered_87 (f_ordered_41 n) 4000 ((x1 + ((-1):Int32))) (((v3.2 79) - (1:Int32))) v3))))) = some q := h
    refine lv_iload_n hx hb dX12_ordered_41 rfl (lv_at hl 1 rfl) ?_
    refine lv_if_le (tgt := 115) hx hb dX12_ordered_42 rfl (fun hc => ?_) (fun hc => ?_)
    · have h := ip hc h
      obtain rfl := sj h
      exact m_wv X hP hF dX12_ordered_115
    · have h := ine hc h
      refine lv_iinc (v := (x1 + ((-1):Int32))) hx hb dX12_ordered_45 hl (k := 1) rfl rfl (Nat.le_of_ble_eq_true rfl) rfl (fun ls (hl : lv_has ls 4 [(1, .int (x1 + ((-1):Int32))), (0, .ref mb)]) => ?_)
      refine lv_aload_n hx hb dX12_ordered_48 rfl (lv_at hl 1 rfl) ?_
      refine mg_pile X hP dX12_ordered_49 ?_
      refine lv_iload_n hx hb dX12_ordered_52 rfl (lv_at hl 0 rfl) ?_
      obtain ⟨v1, hv1, h⟩ := ob h
      refine m_ald X hP hv1 dX12_ordered_53 ?_
      refine lv_istore_n hx hb dX12_ordered_54 rfl hl (Nat.le_of_ble_eq_true rfl) rfl (fun ls (hl : lv_has ls 4 [(2, .int v1), (1, .int (x1 + ((-1):Int32))), (0, .ref mb)]) => ?_)
      refine lv_aload_n hx hb dX12_ordered_55 rfl (lv_at hl 2 rfl) ?_
      refine mg_order X hP dX12_ordered_56 ?_
      refine lv_aload_n hx hb dX12_ordered_59 rfl (lv_at hl 2 rfl) ?_
      refine mg_many X hP dX12_ordered_60 ?_
      refine lv_iload_n hx hb dX12_ordered_63 rfl (lv_at hl 0 rfl) ?_
      obtain ⟨s2, hs2, h⟩ := ob h
      refine m_ast X hP hF hs2 dX12_ordered_64 (fun H locs hP hF => ?_)
      refine lv_aload_n hx hb dX12_ordered_65 rfl (lv_at hl 2 rfl) ?_
      refine lv_dup hx hb dX12_ordered_66 rfl ?_
      refine mg_many X hP dX12_ordered_67 ?_
      refine lv_iconst (v := (1:Int32)) hx hb dX12_ordered_70 (by decide) ?_
      refine lv_iadd hx hb dX12_ordered_71 ?_
      refine mp_many X hP hF dX12_ordered_72 (fun H locs hP hF => ?_)
      refine lv_aload_n hx hb dX12_ordered_75 rfl (lv_at hl 2 rfl) ?_
      refine lv_iload_n hx hb dX12_ordered_76 rfl (lv_at hl 0 rfl) ?_
      obtain ⟨v3, hv3, h⟩ := ob h
      refine cl_fanOf X hP hF hv3 ⟨Nat.le_of_ble_eq_true rfl, Nat.le_of_ble_eq_true rfl⟩ hl.1 (Nat.le_of_ble_eq_true rfl) dX12_ordered_77 (fun H locs hP hF => ?_)
      refine lv_aload_n hx hb dX12_ordered_80 rfl (lv_at hl 2 rfl) ?_
      refine mg_fans X hP dX12_ordered_81 ?_
      refine lv_iconst (v := (1:Int32)) hx hb dX12_ordered_84 (by decide) ?_
      refine lv_isub hx hb dX12_ordered_85 ?_
      refine lv_istore_n hx hb dX12_ordered_86 rfl hl (Nat.le_of_ble_eq_true rfl) rfl (fun ls (hl : lv_has ls 4 [(3, .int ((v3.2 79) - (1:Int32))), (2, .int v1), (1, .int (x1 + ((-1):Int32))), (0, .ref mb)]) => ?_)
      exact N_ordered_87 X hP hF ih (lv_sub hl [3, 2, 0] rfl) h
set_option maxRecDepth 20000 in
set_option maxHeartbeats 4000000 in
theorem N_ordered_2 {p : Program} {l : Launch} {e : Env} {s : State} {m : MethodId} {args : Array Value} {below : List Frame} {meth : Method} {c : Code} {D : mD} {mb : Nat}  {n : Nat} {x1 : Int32} {σ : mS} {H : Heap} {locs : List Loc} {ls : Array Slot} {q : mS} (X : mX p s m args meth c cX12_ordered 4 none D) (hP : mP D mb σ H) (hF : mF mb s.heap H locs)  (hl : lv_has ls 4 [(0, .ref mb), (1, .int x1)]) (h : f_ordered_2  n x1 σ = some q) : mWw p l e 7 157 s m args below meth c D mb q none H locs (F0 m 2 ls []) := by
  have hx := X.1
  have hb := X.2.1
  have hown := X.2.2.2.1
  have hts := X.2.2.2.2.1
  induction n generalizing x1 σ H locs ls with
  | zero => exact absurd (show none = some q from h) (by simp)
  | succ n ih =>
    have h : (if (σ.2 13) ≤ x1 then ((wr (sf σ 76 (0:Int32)) 80 (0:Int32) (0:Int32)).bind (fun s1 => f_ordered_41 4000 ((1:Int32)) s1)) else ((f_shown (x1) σ).bind (fun v2 => (wr σ 77 x1 v2).bind (fun s3 => f_ordered_2 n ((x1 + (1:Int32))) s3)))) = some q := h
    refine lv_iload_n hx hb dX12_ordered_2 rfl (lv_at hl 1 rfl) ?_
    refine lv_aload_n hx hb dX12_ordered_3 rfl (lv_at hl 0 rfl) ?_
    refine mg_made X hP dX12_ordered_4 ?_
    refine lv_icmp_ge (tgt := 27) hx hb dX12_ordered_7 rfl (fun hc => ?_) (fun hc => ?_)
    · have h := ip hc h
      refine lv_aload_n hx hb dX12_ordered_27 rfl (lv_at hl 0 rfl) ?_
      refine lv_iconst (v := (0:Int32)) hx hb dX12_ordered_28 (by decide) ?_
      refine mp_many X hP hF dX12_ordered_29 (fun H locs hP hF => ?_)
      refine lv_aload_n hx hb dX12_ordered_32 rfl (lv_at hl 0 rfl) ?_
      refine mg_pile X hP dX12_ordered_33 ?_
      refine lv_iconst (v := (0:Int32)) hx hb dX12_ordered_36 (by decide) ?_
      refine lv_iconst (v := (0:Int32)) hx hb dX12_ordered_37 (by decide) ?_
      obtain ⟨s1, hs1, h⟩ := ob h
      refine m_ast X hP hF hs1 dX12_ordered_38 (fun H locs hP hF => ?_)
      refine lv_iconst (v := (1:Int32)) hx hb dX12_ordered_39 (by decide) ?_
      refine lv_istore_n hx hb dX12_ordered_40 rfl hl (Nat.le_of_ble_eq_true rfl) rfl (fun ls (hl : lv_has ls 4 [(1, .int (1:Int32)), (0, .ref mb)]) => ?_)
      exact N_ordered_41 X hP hF (lv_sub hl [1, 0] rfl) h
    · have h := ine hc h
      refine lv_aload_n hx hb dX12_ordered_10 rfl (lv_at hl 0 rfl) ?_
      refine mg_shp X hP dX12_ordered_11 ?_
      refine lv_iload_n hx hb dX12_ordered_14 rfl (lv_at hl 1 rfl) ?_
      refine lv_aload_n hx hb dX12_ordered_15 rfl (lv_at hl 0 rfl) ?_
      refine lv_iload_n hx hb dX12_ordered_16 rfl (lv_at hl 1 rfl) ?_
      obtain ⟨v2, hv2, h⟩ := ob h
      refine cl_shown X hP hv2 ⟨Nat.le_of_ble_eq_true rfl, Nat.le_of_ble_eq_true rfl⟩ hl.1 (Nat.le_of_ble_eq_true rfl) dX12_ordered_17 ?_
      obtain ⟨s3, hs3, h⟩ := ob h
      refine m_ast X hP hF hs3 dX12_ordered_20 (fun H locs hP hF => ?_)
      refine lv_iinc (v := (x1 + (1:Int32))) hx hb dX12_ordered_21 hl (k := 1) rfl rfl (Nat.le_of_ble_eq_true rfl) rfl (fun ls (hl : lv_has ls 4 [(1, .int (x1 + (1:Int32))), (0, .ref mb)]) => ?_)
      refine lv_goto (tgt := 2) hx hb dX12_ordered_24 rfl ?_
      exact ih hP hF (lv_sub hl [1, 0] rfl) h
set_option maxRecDepth 20000 in
set_option maxHeartbeats 4000000 in
theorem K_ordered (l : Launch) (D : mD) (mb : Nat) (σ : mS)  {q : mS} (h : f_ordered  σ = some q) : Met l yX12_ordered (Cond.code yX12_ordered cX12_ordered 4 none :: BG) (rM 7 157) (mPc D mb σ []) (mQw D mb q none) 0 0 (mReg mb) := by
  refine Met.ofW (cc := cX12_ordered) (maxL := 4) (ret := none) (by decide) rfl ?_
  intro p e s m args below meth c s₁ B hml hv
  obtain ⟨rfl, hP, hK⟩ := hv
  have X := mX_of B hml rfl hK
  have hx := X.1
  have hb := X.2.1
  have hown := X.2.2.2.1
  have hts := X.2.2.2.2.1
  have hl := lv_entry (.ref mb :: []) (n := 4) (Nat.le_of_ble_eq_true rfl)
  rw [lg_entry_eq]
  generalize (lg_sl (.ref mb :: []) ++ List.replicate (4 - (lg_sl (.ref mb :: [])).length) Slot.unset).toArray = ls at hl ⊢
  have hl : lv_has ls 4 [(0, .ref mb)] := hl
  have hF : mF mb s.heap s.heap [] := mF.rf
  show mWw p l e 7 157 s m (Value.ref mb :: []).toArray below meth c D mb q none s.heap [] (F0 m 0 ls [])
  have h : (f_ordered_2 4000 ((0:Int32)) σ) = some q := h
  refine lv_iconst (v := (0:Int32)) hx hb dX12_ordered_0 (by decide) ?_
  refine lv_istore_n hx hb dX12_ordered_1 rfl hl (Nat.le_of_ble_eq_true rfl) rfl (fun ls (hl : lv_has ls 4 [(1, .int (0:Int32)), (0, .ref mb)]) => ?_)
  exact N_ordered_2 X hP hF (lv_sub hl [1, 0] rfl) h
theorem cl_ordered {p : Program} {l : Launch} {e : Env} {s : State} {m : MethodId} {args : Array Value} {below : List Frame} {meth : Method} {c : Code} {D : mD} {mb : Nat} {H : Heap} {locs : List Loc} {Q : State → Prop} {cc : ByteArray} {pc fR lR nL : Nat} {ls : Array Slot} {rest : List Value} {ret : Option FieldType} {σ : mS} (X : mX p s m args meth c cc nL ret D) (hP : mP D mb σ H) (hF : mF mb s.heap H locs)  {q : mS} (h : f_ordered  σ = some q) (hr : 7 + 1 ≤ fR ∧ 8 + (4 + 11) + 157 ≤ lR) (hl : ls.size = nL) (hW : (rest.map fun v => v.category).sum ≤ 8) (hdg : decode cc pc = .ok (.invokevirtual 447, 3)) (kk : ∀ (H1 : Heap) (locs1 : List Loc), mP D mb q H1 → mF mb s.heap H1 locs1 → W p l e (rM fR lR) s m args below meth c H1 locs1 0 0 Q (F0 m (pc + 3) ls rest)) : W p l e (rM fR lR) s m args below meth c H locs 0 0 Q (F0 m pc ls (.ref mb :: rest)) := m_cv (m_run (n := 0) X (K_ordered l D mb σ  h) ⟨w_2143, w_2145, w_106, w_2146⟩ (hyX rfl (by decide +kernel)) rfl hr hP hl hW hdg rfl) hF kk
-- below(II)Z
def f_below_34  (y0 : Int32) (σ : mS) : Option (Int32) := rz y0
def f_below_24  (x2 : Int32) (x3 : Int32) (σ : mS) : Option (Int32) := if x3 = x2 then (f_below_34 ((1:Int32)) σ) else (f_below_34 ((0:Int32)) σ)
def f_below_6  : Nat → Int32 → Int32 → mS → Option (Int32)
  | 0, _, _, _ => none
  | n + 1, x2, x3, σ => if x3 < (0:Int32) then (f_below_24 (x2) (x3) σ) else (if x3 = x2 then (f_below_24 (x2) (x3) σ) else ((f_shown (x3) σ).bind (fun v1 => f_below_6 n (x2) (v1) σ)))
def f_below (x1 : Int32) (x2 : Int32) (σ : mS) : Option (Int32) := (f_shown (x1) σ).bind (fun v1 => f_below_6 4000 (x2) (v1) σ)
set_option maxRecDepth 20000 in
set_option maxHeartbeats 4000000 in
theorem N_below_34 {p : Program} {l : Launch} {e : Env} {s : State} {m : MethodId} {args : Array Value} {below : List Frame} {meth : Method} {c : Code} {D : mD} {mb : Nat}   {y0 : Int32} {σ : mS} {ls : Array Slot} {r : Int32} (X : mX p s m args meth c cX12_below 4 (some .boolean) D) (hP : mP D mb σ s.heap)  (hl : lv_has ls 4 [(0, .ref mb)]) (h : f_below_34  y0 σ = some r) : mWr p l e 5 112 s m args below meth c (some (.int r)) (F0 m 34 ls [.int y0]) := by
  have hx := X.1
  have hb := X.2.1
  have hown := X.2.2.2.1
  have hts := X.2.2.2.2.1
  have h : (rz y0) = some r := h
  obtain ⟨hz, rfl⟩ := rz_spec h
  exact m_rz X hz dX12_below_34
set_option maxRecDepth 20000 in
set_option maxHeartbeats 4000000 in
theorem N_below_24 {p : Program} {l : Launch} {e : Env} {s : State} {m : MethodId} {args : Array Value} {below : List Frame} {meth : Method} {c : Code} {D : mD} {mb : Nat}   {x2 : Int32} {x3 : Int32} {σ : mS} {ls : Array Slot} {r : Int32} (X : mX p s m args meth c cX12_below 4 (some .boolean) D) (hP : mP D mb σ s.heap)  (hl : lv_has ls 4 [(0, .ref mb), (2, .int x2), (3, .int x3)]) (h : f_below_24  x2 x3 σ = some r) : mWr p l e 5 112 s m args below meth c (some (.int r)) (F0 m 24 ls []) := by
  have hx := X.1
  have hb := X.2.1
  have hown := X.2.2.2.1
  have hts := X.2.2.2.2.1
  have h : (if x3 = x2 then (f_below_34 ((1:Int32)) σ) else (f_below_34 ((0:Int32)) σ)) = some r := h
  refine lv_iload_n hx hb dX12_below_24 rfl (lv_at hl 2 rfl) ?_
  refine lv_iload_n hx hb dX12_below_25 rfl (lv_at hl 1 rfl) ?_
  refine lv_icmp_ne (tgt := 33) hx hb dX12_below_26 rfl (fun hc => ?_) (fun hc => ?_)
  · have h := ine hc h
    refine lv_iconst (v := (0:Int32)) hx hb dX12_below_33 (by decide) ?_
    exact N_below_34 X hP (lv_sub hl [0] rfl) h
  · have h := ip hc h
    refine lv_iconst (v := (1:Int32)) hx hb dX12_below_29 (by decide) ?_
    refine lv_goto (tgt := 34) hx hb dX12_below_30 rfl ?_
    exact N_below_34 X hP (lv_sub hl [0] rfl) h
set_option maxRecDepth 20000 in
set_option maxHeartbeats 4000000 in
theorem N_below_6 {p : Program} {l : Launch} {e : Env} {s : State} {m : MethodId} {args : Array Value} {below : List Frame} {meth : Method} {c : Code} {D : mD} {mb : Nat}  {n : Nat} {x2 : Int32} {x3 : Int32} {σ : mS} {ls : Array Slot} {r : Int32} (X : mX p s m args meth c cX12_below 4 (some .boolean) D) (hP : mP D mb σ s.heap)  (hl : lv_has ls 4 [(0, .ref mb), (2, .int x2), (3, .int x3)]) (h : f_below_6  n x2 x3 σ = some r) : mWr p l e 5 112 s m args below meth c (some (.int r)) (F0 m 6 ls []) := by
  have hx := X.1
  have hb := X.2.1
  have hown := X.2.2.2.1
  have hts := X.2.2.2.2.1
  induction n generalizing x2 x3 ls with
  | zero => exact absurd (show none = some r from h) (by simp)
  | succ n ih =>
    have h : (if x3 < (0:Int32) then (f_below_24 (x2) (x3) σ) else (if x3 = x2 then (f_below_24 (x2) (x3) σ) else ((f_shown (x3) σ).bind (fun v1 => f_below_6 n (x2) (v1) σ)))) = some r := h
    refine lv_iload_n hx hb dX12_below_6 rfl (lv_at hl 2 rfl) ?_
    refine lv_if_lt (tgt := 24) hx hb dX12_below_7 rfl (fun hc => ?_) (fun hc => ?_)
    · have h := ip hc h
      exact N_below_24 X hP (lv_sub hl [0, 1, 2] rfl) h
    · have h := ine hc h
      refine lv_iload_n hx hb dX12_below_10 rfl (lv_at hl 2 rfl) ?_
      refine lv_iload_n hx hb dX12_below_11 rfl (lv_at hl 1 rfl) ?_
      refine lv_icmp_eq (tgt := 24) hx hb dX12_below_12 rfl (fun hc => ?_) (fun hc => ?_)
      · have h := ip hc h
        exact N_below_24 X hP (lv_sub hl [0, 1, 2] rfl) h
      · have h := ine hc h
        refine lv_aload_n hx hb dX12_below_15 rfl (lv_at hl 0 rfl) ?_
        refine lv_iload_n hx hb dX12_below_16 rfl (lv_at hl 2 rfl) ?_
        obtain ⟨v1, hv1, h⟩ := ob h
        refine cl_shown X hP hv1 ⟨Nat.le_of_ble_eq_true rfl, Nat.le_of_ble_eq_true rfl⟩ hl.1 (Nat.le_of_ble_eq_true rfl) dX12_below_17 ?_
        refine lv_istore_n hx hb dX12_below_20 rfl hl (Nat.le_of_ble_eq_true rfl) rfl (fun ls (hl : lv_has ls 4 [(3, .int v1), (0, .ref mb), (2, .int x2)]) => ?_)
        refine lv_goto (tgt := 6) hx hb dX12_below_21 rfl ?_
        exact ih (lv_sub hl [1, 2, 0] rfl) h
set_option maxRecDepth 20000 in
set_option maxHeartbeats 4000000 in
theorem K_below (l : Launch) (D : mD) (mb : Nat) (σ : mS) (x1 : Int32) (x2 : Int32) {r : Int32} (h : f_below x1 x2 σ = some r) : Met l yX12_below (Cond.code yX12_below cX12_below 4 (some .boolean) :: BG) (rM 5 112) (mPc D mb σ [.int x1, .int x2]) (mQr (some (.int r))) 0 0 (fun _ => False) := by
  refine Met.ofW (cc := cX12_below) (maxL := 4) (ret := (some .boolean)) (by decide) rfl ?_
  intro p e s m args below meth c s₁ B hml hv
  obtain ⟨rfl, hP, hK⟩ := hv
  have X := mX_of B hml rfl hK
  have hx := X.1
  have hb := X.2.1
  have hown := X.2.2.2.1
  have hts := X.2.2.2.2.1
  have hl := lv_entry (.ref mb :: [.int x1, .int x2]) (n := 4) (Nat.le_of_ble_eq_true rfl)
  rw [lg_entry_eq]
  generalize (lg_sl (.ref mb :: [.int x1, .int x2]) ++ List.replicate (4 - (lg_sl (.ref mb :: [.int x1, .int x2])).length) Slot.unset).toArray = ls at hl ⊢
  have hl : lv_has ls 4 [(0, .ref mb), (1, .int x1), (2, .int x2)] := hl
  show mWr p l e 5 112 s m (Value.ref mb :: [.int x1, .int x2]).toArray below meth c (some (.int r)) (F0 m 0 ls [])
  have h : ((f_shown (x1) σ).bind (fun v1 => f_below_6 4000 (x2) (v1) σ)) = some r := h
  refine lv_aload_n hx hb dX12_below_0 rfl (lv_at hl 0 rfl) ?_
  refine lv_iload_n hx hb dX12_below_1 rfl (lv_at hl 1 rfl) ?_
  obtain ⟨v1, hv1, h⟩ := ob h
  refine cl_shown X hP hv1 ⟨Nat.le_of_ble_eq_true rfl, Nat.le_of_ble_eq_true rfl⟩ hl.1 (Nat.le_of_ble_eq_true rfl) dX12_below_2 ?_
  refine lv_istore_n hx hb dX12_below_5 rfl hl (Nat.le_of_ble_eq_true rfl) rfl (fun ls (hl : lv_has ls 4 [(3, .int v1), (0, .ref mb), (1, .int x1), (2, .int x2)]) => ?_)
  exact N_below_6 X hP (lv_sub hl [1, 3, 0] rfl) h
theorem cl_below {p : Program} {l : Launch} {e : Env} {s : State} {m : MethodId} {args : Array Value} {below : List Frame} {meth : Method} {c : Code} {D : mD} {mb : Nat} {H : Heap} {locs : List Loc} {Q : State → Prop} {cc : ByteArray} {pc fR lR nL : Nat} {ls : Array Slot} {rest : List Value} {ret : Option FieldType} {σ : mS} (X : mX p s m args meth c cc nL ret D) (hP : mP D mb σ H) {x1 : Int32} {x2 : Int32} {r : Int32} (h : f_below x1 x2 σ = some r) (hr : 5 + 1 ≤ fR ∧ 8 + (4 + 11) + 112 ≤ lR) (hl : ls.size = nL) (hW : (rest.map fun v => v.category).sum ≤ 8) (hdg : decode cc pc = .ok (.invokevirtual 494, 3)) (kk : W p l e (rM fR lR) s m args below meth c H locs 0 0 Q (F0 m (pc + 3) ls (.int r :: rest))) : W p l e (rM fR lR) s m args below meth c H locs 0 0 Q (F0 m pc ls (.int x2 :: .int x1 :: .ref mb :: rest)) := m_cr (m_run (n := 2) X (K_below l D mb σ x1 x2 h) ⟨w_1910, w_1912, w_71, w_1913⟩ (hyX rfl (by decide +kernel)) rfl hr hP hl hW hdg rfl) kk
