theorem dX12_draft_0 : decode cX12_draft 0 = .ok (.aload_n 0, 1) := by decide +kernel
theorem dX12_draft_1 : decode cX12_draft 1 = .ok (.getfield 49, 3) := by decide +kernel
theorem dX12_draft_4 : decode cX12_draft 4 = .ok (.bipush 30, 2) := by decide +kernel
theorem dX12_draft_6 : decode cX12_draft 6 = .ok (.iconst 1, 1) := by decide +kernel
theorem dX12_draft_7 : decode cX12_draft 7 = .ok (.iastore, 1) := by decide +kernel
theorem dX12_draft_8 : decode cX12_draft 8 = .ok (.iconst 0, 1) := by decide +kernel
theorem dX12_draft_9 : decode cX12_draft 9 = .ok (.istore_n 1, 1) := by decide +kernel
theorem dX12_draft_10 : decode cX12_draft 10 = .ok (.iload_n 1, 1) := by decide +kernel
theorem dX12_draft_11 : decode cX12_draft 11 = .ok (.iconst 4, 1) := by decide +kernel
theorem dX12_draft_12 : decode cX12_draft 12 = .ok (.if_icmp .ge 19, 3) := by decide +kernel
theorem dX12_draft_15 : decode cX12_draft 15 = .ok (.aload_n 0, 1) := by decide +kernel
theorem dX12_draft_16 : decode cX12_draft 16 = .ok (.getfield 55, 3) := by decide +kernel
theorem dX12_draft_19 : decode cX12_draft 19 = .ok (.bipush 120, 2) := by decide +kernel
theorem dX12_draft_21 : decode cX12_draft 21 = .ok (.iload_n 1, 1) := by decide +kernel
theorem dX12_draft_22 : decode cX12_draft 22 = .ok (.iadd, 1) := by decide +kernel
theorem dX12_draft_23 : decode cX12_draft 23 = .ok (.iconst 0, 1) := by decide +kernel
theorem dX12_draft_24 : decode cX12_draft 24 = .ok (.iastore, 1) := by decide +kernel
theorem dX12_draft_25 : decode cX12_draft 25 = .ok (.iinc 1 1, 3) := by decide +kernel
theorem dX12_draft_28 : decode cX12_draft 28 = .ok (.goto (-18), 3) := by decide +kernel
theorem dX12_draft_31 : decode cX12_draft 31 = .ok (.aload_n 0, 1) := by decide +kernel
theorem dX12_draft_32 : decode cX12_draft 32 = .ok (.getfield 70, 3) := by decide +kernel
theorem dX12_draft_35 : decode cX12_draft 35 = .ok (.bipush 30, 2) := by decide +kernel
theorem dX12_draft_37 : decode cX12_draft 37 = .ok (.iconst (-1), 1) := by decide +kernel
theorem dX12_draft_38 : decode cX12_draft 38 = .ok (.iastore, 1) := by decide +kernel
theorem dX12_draft_39 : decode cX12_draft 39 = .ok (.aload_n 0, 1) := by decide +kernel
theorem dX12_draft_40 : decode cX12_draft 40 = .ok (.getfield 73, 3) := by decide +kernel
theorem dX12_draft_43 : decode cX12_draft 43 = .ok (.bipush 30, 2) := by decide +kernel
theorem dX12_draft_45 : decode cX12_draft 45 = .ok (.iconst 0, 1) := by decide +kernel
theorem dX12_draft_46 : decode cX12_draft 46 = .ok (.iastore, 1) := by decide +kernel
theorem dX12_draft_47 : decode cX12_draft 47 = .ok (.return_, 1) := by decide +kernel
theorem dX12_up_0 : decode cX12_up 0 = .ok (.aload_n 0, 1) := by decide +kernel
theorem dX12_up_1 : decode cX12_up 1 = .ok (.getfield 28, 3) := by decide +kernel
theorem dX12_up_4 : decode cX12_up 4 = .ok (.iload_n 1, 1) := by decide +kernel
theorem dX12_up_5 : decode cX12_up 5 = .ok (.iaload, 1) := by decide +kernel
theorem dX12_up_6 : decode cX12_up 6 = .ok (.ifCond .lt 12, 3) := by decide +kernel
theorem dX12_up_9 : decode cX12_up 9 = .ok (.aload_n 0, 1) := by decide +kernel
theorem dX12_up_10 : decode cX12_up 10 = .ok (.getfield 28, 3) := by decide +kernel
theorem dX12_up_13 : decode cX12_up 13 = .ok (.iload_n 1, 1) := by decide +kernel
theorem dX12_up_14 : decode cX12_up 14 = .ok (.iaload, 1) := by decide +kernel
theorem dX12_up_15 : decode cX12_up 15 = .ok (.goto 31, 3) := by decide +kernel
theorem dX12_up_18 : decode cX12_up 18 = .ok (.aload_n 0, 1) := by decide +kernel
theorem dX12_up_19 : decode cX12_up 19 = .ok (.getfield 278, 3) := by decide +kernel
theorem dX12_up_22 : decode cX12_up 22 = .ok (.ifCond .lt 23, 3) := by decide +kernel
theorem dX12_up_25 : decode cX12_up 25 = .ok (.aload_n 0, 1) := by decide +kernel
theorem dX12_up_26 : decode cX12_up 26 = .ok (.getfield 31, 3) := by decide +kernel
theorem dX12_up_29 : decode cX12_up 29 = .ok (.iload_n 1, 1) := by decide +kernel
theorem dX12_up_30 : decode cX12_up 30 = .ok (.iaload, 1) := by decide +kernel
theorem dX12_up_31 : decode cX12_up 31 = .ok (.aload_n 0, 1) := by decide +kernel
theorem dX12_up_32 : decode cX12_up 32 = .ok (.getfield 278, 3) := by decide +kernel
theorem dX12_up_35 : decode cX12_up 35 = .ok (.if_icmp .ne 10, 3) := by decide +kernel
theorem dX12_up_38 : decode cX12_up 38 = .ok (.aload_n 0, 1) := by decide +kernel
theorem dX12_up_39 : decode cX12_up 39 = .ok (.getfield 278, 3) := by decide +kernel
theorem dX12_up_42 : decode cX12_up 42 = .ok (.goto 4, 3) := by decide +kernel
theorem dX12_up_45 : decode cX12_up 45 = .ok (.iconst (-1), 1) := by decide +kernel
theorem dX12_up_46 : decode cX12_up 46 = .ok (.ireturn, 1) := by decide +kernel
theorem dX12_siblings_0 : decode cX12_siblings 0 = .ok (.aload_n 0, 1) := by decide +kernel
theorem dX12_siblings_1 : decode cX12_siblings 1 = .ok (.getfield 28, 3) := by decide +kernel
theorem dX12_siblings_4 : decode cX12_siblings 4 = .ok (.iload_n 1, 1) := by decide +kernel
theorem dX12_siblings_5 : decode cX12_siblings 5 = .ok (.iaload, 1) := by decide +kernel
theorem dX12_siblings_6 : decode cX12_siblings 6 = .ok (.ifCond .lt 18, 3) := by decide +kernel
theorem dX12_siblings_9 : decode cX12_siblings 9 = .ok (.aload_n 0, 1) := by decide +kernel
theorem dX12_siblings_10 : decode cX12_siblings 10 = .ok (.getfield 28, 3) := by decide +kernel
theorem dX12_siblings_13 : decode cX12_siblings 13 = .ok (.iload_n 1, 1) := by decide +kernel
theorem dX12_siblings_14 : decode cX12_siblings 14 = .ok (.iaload, 1) := by decide +kernel
theorem dX12_siblings_15 : decode cX12_siblings 15 = .ok (.aload_n 0, 1) := by decide +kernel
theorem dX12_siblings_16 : decode cX12_siblings 16 = .ok (.getfield 28, 3) := by decide +kernel
theorem dX12_siblings_19 : decode cX12_siblings 19 = .ok (.iload_n 2, 1) := by decide +kernel
theorem dX12_siblings_20 : decode cX12_siblings 20 = .ok (.iaload, 1) := by decide +kernel
theorem dX12_siblings_21 : decode cX12_siblings 21 = .ok (.if_icmp .eq 27, 3) := by decide +kernel
theorem dX12_siblings_24 : decode cX12_siblings 24 = .ok (.aload_n 0, 1) := by decide +kernel
theorem dX12_siblings_25 : decode cX12_siblings 25 = .ok (.getfield 31, 3) := by decide +kernel
theorem dX12_siblings_28 : decode cX12_siblings 28 = .ok (.iload_n 1, 1) := by decide +kernel
theorem dX12_siblings_29 : decode cX12_siblings 29 = .ok (.iaload, 1) := by decide +kernel
theorem dX12_siblings_30 : decode cX12_siblings 30 = .ok (.ifCond .lt 22, 3) := by decide +kernel
theorem dX12_siblings_33 : decode cX12_siblings 33 = .ok (.aload_n 0, 1) := by decide +kernel
theorem dX12_siblings_34 : decode cX12_siblings 34 = .ok (.getfield 31, 3) := by decide +kernel
theorem dX12_siblings_37 : decode cX12_siblings 37 = .ok (.iload_n 1, 1) := by decide +kernel
theorem dX12_siblings_38 : decode cX12_siblings 38 = .ok (.iaload, 1) := by decide +kernel
theorem dX12_siblings_39 : decode cX12_siblings 39 = .ok (.aload_n 0, 1) := by decide +kernel
theorem dX12_siblings_40 : decode cX12_siblings 40 = .ok (.getfield 31, 3) := by decide +kernel
theorem dX12_siblings_43 : decode cX12_siblings 43 = .ok (.iload_n 2, 1) := by decide +kernel
theorem dX12_siblings_44 : decode cX12_siblings 44 = .ok (.iaload, 1) := by decide +kernel
theorem dX12_siblings_45 : decode cX12_siblings 45 = .ok (.if_icmp .ne 7, 3) := by decide +kernel
theorem dX12_siblings_48 : decode cX12_siblings 48 = .ok (.iconst 1, 1) := by decide +kernel
theorem dX12_siblings_49 : decode cX12_siblings 49 = .ok (.goto 4, 3) := by decide +kernel
theorem dX12_siblings_52 : decode cX12_siblings 52 = .ok (.iconst 0, 1) := by decide +kernel
theorem dX12_siblings_53 : decode cX12_siblings 53 = .ok (.ireturn, 1) := by decide +kernel
theorem dX12_related_0 : decode cX12_related 0 = .ok (.iload_n 1, 1) := by decide +kernel
theorem dX12_related_1 : decode cX12_related 1 = .ok (.iconst 1, 1) := by decide +kernel
theorem dX12_related_2 : decode cX12_related 2 = .ok (.if_icmp .le 59, 3) := by decide +kernel
theorem dX12_related_5 : decode cX12_related 5 = .ok (.aload_n 0, 1) := by decide +kernel
theorem dX12_related_6 : decode cX12_related 6 = .ok (.iload_n 2, 1) := by decide +kernel
theorem dX12_related_7 : decode cX12_related 7 = .ok (.iload_n 3, 1) := by decide +kernel
theorem dX12_related_8 : decode cX12_related 8 = .ok (.invokevirtual 281, 3) := by decide +kernel
theorem dX12_related_11 : decode cX12_related 11 = .ok (.ifCond .eq 17, 3) := by decide +kernel
theorem dX12_related_14 : decode cX12_related 14 = .ok (.aload_n 0, 1) := by decide +kernel
theorem dX12_related_15 : decode cX12_related 15 = .ok (.iload_n 2, 1) := by decide +kernel
theorem dX12_related_16 : decode cX12_related 16 = .ok (.invokevirtual 248, 3) := by decide +kernel
theorem dX12_related_19 : decode cX12_related 19 = .ok (.aload_n 0, 1) := by decide +kernel
theorem dX12_related_20 : decode cX12_related 20 = .ok (.iload_n 3, 1) := by decide +kernel
theorem dX12_related_21 : decode cX12_related 21 = .ok (.invokevirtual 248, 3) := by decide +kernel
theorem dX12_related_24 : decode cX12_related 24 = .ok (.isub, 1) := by decide +kernel
theorem dX12_related_25 : decode cX12_related 25 = .ok (.goto 4, 3) := by decide +kernel
theorem dX12_related_28 : decode cX12_related 28 = .ok (.iconst 0, 1) := by decide +kernel
theorem dX12_related_29 : decode cX12_related 29 = .ok (.istore 4, 2) := by decide +kernel
theorem dX12_related_31 : decode cX12_related 31 = .ok (.iload_n 1, 1) := by decide +kernel
theorem dX12_related_32 : decode cX12_related 32 = .ok (.iconst 2, 1) := by decide +kernel
theorem dX12_related_33 : decode cX12_related 33 = .ok (.if_icmp .ne 17, 3) := by decide +kernel
theorem dX12_related_36 : decode cX12_related 36 = .ok (.iload 4, 2) := by decide +kernel
theorem dX12_related_38 : decode cX12_related 38 = .ok (.iconst 1, 1) := by decide +kernel
theorem dX12_related_39 : decode cX12_related 39 = .ok (.if_icmp .ne 7, 3) := by decide +kernel
theorem dX12_related_42 : decode cX12_related 42 = .ok (.iconst 1, 1) := by decide +kernel
theorem dX12_related_43 : decode cX12_related 43 = .ok (.goto 17, 3) := by decide +kernel
theorem dX12_related_46 : decode cX12_related 46 = .ok (.iconst 0, 1) := by decide +kernel
theorem dX12_related_47 : decode cX12_related 47 = .ok (.goto 13, 3) := by decide +kernel
theorem dX12_related_50 : decode cX12_related 50 = .ok (.iload 4, 2) := by decide +kernel
theorem dX12_related_52 : decode cX12_related 52 = .ok (.ifCond .le 7, 3) := by decide +kernel
theorem dX12_related_55 : decode cX12_related 55 = .ok (.iconst 1, 1) := by decide +kernel
theorem dX12_related_56 : decode cX12_related 56 = .ok (.goto 4, 3) := by decide +kernel
theorem dX12_related_59 : decode cX12_related 59 = .ok (.iconst 0, 1) := by decide +kernel
theorem dX12_related_60 : decode cX12_related 60 = .ok (.ireturn, 1) := by decide +kernel
theorem dX12_related_61 : decode cX12_related 61 = .ok (.aload_n 0, 1) := by decide +kernel
theorem dX12_related_62 : decode cX12_related 62 = .ok (.iload_n 2, 1) := by decide +kernel
theorem dX12_related_63 : decode cX12_related 63 = .ok (.invokevirtual 285, 3) := by decide +kernel
theorem dX12_related_66 : decode cX12_related 66 = .ok (.istore 4, 2) := by decide +kernel
theorem dX12_related_68 : decode cX12_related 68 = .ok (.iload_n 1, 1) := by decide +kernel
theorem dX12_related_69 : decode cX12_related 69 = .ok (.ifCond .ne 34, 3) := by decide +kernel
theorem dX12_related_72 : decode cX12_related 72 = .ok (.iload 4, 2) := by decide +kernel
theorem dX12_related_74 : decode cX12_related 74 = .ok (.ifCond .lt 29, 3) := by decide +kernel
theorem dX12_related_77 : decode cX12_related 77 = .ok (.iload 4, 2) := by decide +kernel
theorem dX12_related_79 : decode cX12_related 79 = .ok (.iload_n 3, 1) := by decide +kernel
theorem dX12_related_80 : decode cX12_related 80 = .ok (.if_icmp .eq 23, 3) := by decide +kernel
theorem dX12_related_83 : decode cX12_related 83 = .ok (.iload 4, 2) := by decide +kernel
theorem dX12_related_85 : decode cX12_related 85 = .ok (.aload_n 0, 1) := by decide +kernel
theorem dX12_related_86 : decode cX12_related 86 = .ok (.getfield 278, 3) := by decide +kernel
theorem dX12_related_89 : decode cX12_related 89 = .ok (.if_icmp .eq 14, 3) := by decide +kernel
theorem dX12_related_92 : decode cX12_related 92 = .ok (.aload_n 0, 1) := by decide +kernel
theorem dX12_related_93 : decode cX12_related 93 = .ok (.iload 4, 2) := by decide +kernel
theorem dX12_related_95 : decode cX12_related 95 = .ok (.invokevirtual 285, 3) := by decide +kernel
theorem dX12_related_98 : decode cX12_related 98 = .ok (.istore 4, 2) := by decide +kernel
theorem dX12_related_100 : decode cX12_related 100 = .ok (.goto (-32), 3) := by decide +kernel
theorem dX12_related_103 : decode cX12_related 103 = .ok (.iload 4, 2) := by decide +kernel
theorem dX12_related_105 : decode cX12_related 105 = .ok (.iload_n 3, 1) := by decide +kernel
theorem dX12_related_106 : decode cX12_related 106 = .ok (.if_icmp .ne 12, 3) := by decide +kernel
theorem dX12_related_109 : decode cX12_related 109 = .ok (.iload 4, 2) := by decide +kernel
theorem dX12_related_111 : decode cX12_related 111 = .ok (.ifCond .lt 7, 3) := by decide +kernel
theorem dX12_related_114 : decode cX12_related 114 = .ok (.iconst 1, 1) := by decide +kernel
theorem dX12_related_115 : decode cX12_related 115 = .ok (.goto 4, 3) := by decide +kernel
theorem dX12_related_118 : decode cX12_related 118 = .ok (.iconst 0, 1) := by decide +kernel
theorem dX12_related_119 : decode cX12_related 119 = .ok (.ireturn, 1) := by decide +kernel
theorem dX12_nth_0 : decode cX12_nth 0 = .ok (.iload_n 3, 1) := by decide +kernel
theorem dX12_nth_1 : decode cX12_nth 1 = .ok (.iload_n 2, 1) := by decide +kernel
theorem dX12_nth_2 : decode cX12_nth 2 = .ok (.isub, 1) := by decide +kernel
theorem dX12_nth_3 : decode cX12_nth 3 = .ok (.istore 4, 2) := by decide +kernel
theorem dX12_nth_5 : decode cX12_nth 5 = .ok (.iload_n 1, 1) := by decide +kernel
theorem dX12_nth_6 : decode cX12_nth 6 = .ok (.ifCond .ne 16, 3) := by decide +kernel
theorem dX12_nth_9 : decode cX12_nth 9 = .ok (.iload 4, 2) := by decide +kernel
theorem dX12_nth_11 : decode cX12_nth 11 = .ok (.ifCond .ne 7, 3) := by decide +kernel
theorem dX12_nth_14 : decode cX12_nth 14 = .ok (.iconst 1, 1) := by decide +kernel
theorem dX12_nth_15 : decode cX12_nth 15 = .ok (.goto 26, 3) := by decide +kernel
theorem dX12_nth_18 : decode cX12_nth 18 = .ok (.iconst 0, 1) := by decide +kernel
theorem dX12_nth_19 : decode cX12_nth 19 = .ok (.goto 22, 3) := by decide +kernel
theorem dX12_nth_22 : decode cX12_nth 22 = .ok (.iload 4, 2) := by decide +kernel
theorem dX12_nth_24 : decode cX12_nth 24 = .ok (.iload_n 1, 1) := by decide +kernel
theorem dX12_nth_25 : decode cX12_nth 25 = .ok (.irem, 1) := by decide +kernel
theorem dX12_nth_26 : decode cX12_nth 26 = .ok (.ifCond .ne 14, 3) := by decide +kernel
theorem dX12_nth_29 : decode cX12_nth 29 = .ok (.iload 4, 2) := by decide +kernel
theorem dX12_nth_31 : decode cX12_nth 31 = .ok (.iload_n 1, 1) := by decide +kernel
theorem dX12_nth_32 : decode cX12_nth 32 = .ok (.idiv, 1) := by decide +kernel
theorem dX12_nth_33 : decode cX12_nth 33 = .ok (.ifCond .lt 7, 3) := by decide +kernel
theorem dX12_nth_36 : decode cX12_nth 36 = .ok (.iconst 1, 1) := by decide +kernel
theorem dX12_nth_37 : decode cX12_nth 37 = .ok (.goto 4, 3) := by decide +kernel
theorem dX12_nth_40 : decode cX12_nth 40 = .ok (.iconst 0, 1) := by decide +kernel
theorem dX12_nth_41 : decode cX12_nth 41 = .ok (.ireturn, 1) := by decide +kernel
theorem dX12_hasIn_0 : decode cX12_hasIn 0 = .ok (.iconst 0, 1) := by decide +kernel
theorem dX12_hasIn_1 : decode cX12_hasIn 1 = .ok (.istore 4, 2) := by decide +kernel
theorem dX12_hasIn_3 : decode cX12_hasIn 3 = .ok (.iconst 0, 1) := by decide +kernel
theorem dX12_hasIn_4 : decode cX12_hasIn 4 = .ok (.istore 5, 2) := by decide +kernel
theorem dX12_hasIn_6 : decode cX12_hasIn 6 = .ok (.iload 5, 2) := by decide +kernel
theorem dX12_hasIn_8 : decode cX12_hasIn 8 = .ok (.aload_n 0, 1) := by decide +kernel
theorem dX12_hasIn_9 : decode cX12_hasIn 9 = .ok (.getfield 217, 3) := by decide +kernel
theorem dX12_hasIn_12 : decode cX12_hasIn 12 = .ok (.if_icmp .ge 45, 3) := by decide +kernel
theorem dX12_hasIn_15 : decode cX12_hasIn 15 = .ok (.iload 4, 2) := by decide +kernel
theorem dX12_hasIn_17 : decode cX12_hasIn 17 = .ok (.aload_n 0, 1) := by decide +kernel
theorem dX12_hasIn_18 : decode cX12_hasIn 18 = .ok (.aload_n 0, 1) := by decide +kernel
theorem dX12_hasIn_19 : decode cX12_hasIn 19 = .ok (.getfield 187, 3) := by decide +kernel
theorem dX12_hasIn_22 : decode cX12_hasIn 22 = .ok (.iload_n 2, 1) := by decide +kernel
theorem dX12_hasIn_23 : decode cX12_hasIn 23 = .ok (.iaload, 1) := by decide +kernel
theorem dX12_hasIn_24 : decode cX12_hasIn 24 = .ok (.iload 5, 2) := by decide +kernel
theorem dX12_hasIn_26 : decode cX12_hasIn 26 = .ok (.invokevirtual 288, 3) := by decide +kernel
theorem dX12_hasIn_29 : decode cX12_hasIn 29 = .ok (.ifCond .eq 18, 3) := by decide +kernel
theorem dX12_hasIn_32 : decode cX12_hasIn 32 = .ok (.aload_n 0, 1) := by decide +kernel
theorem dX12_hasIn_33 : decode cX12_hasIn 33 = .ok (.iload_n 1, 1) := by decide +kernel
theorem dX12_hasIn_34 : decode cX12_hasIn 34 = .ok (.iload 5, 2) := by decide +kernel
theorem dX12_hasIn_36 : decode cX12_hasIn 36 = .ok (.iload_n 3, 1) := by decide +kernel
theorem dX12_hasIn_37 : decode cX12_hasIn 37 = .ok (.invokevirtual 291, 3) := by decide +kernel
theorem dX12_hasIn_40 : decode cX12_hasIn 40 = .ok (.ifCond .eq 7, 3) := by decide +kernel
theorem dX12_hasIn_43 : decode cX12_hasIn 43 = .ok (.iconst 1, 1) := by decide +kernel
theorem dX12_hasIn_44 : decode cX12_hasIn 44 = .ok (.goto 4, 3) := by decide +kernel
theorem dX12_hasIn_47 : decode cX12_hasIn 47 = .ok (.iconst 0, 1) := by decide +kernel
theorem dX12_hasIn_48 : decode cX12_hasIn 48 = .ok (.ior, 1) := by decide +kernel
theorem dX12_hasIn_49 : decode cX12_hasIn 49 = .ok (.istore 4, 2) := by decide +kernel
theorem dX12_hasIn_51 : decode cX12_hasIn 51 = .ok (.iinc 5 1, 3) := by decide +kernel
theorem dX12_hasIn_54 : decode cX12_hasIn 54 = .ok (.goto (-48), 3) := by decide +kernel
theorem dX12_hasIn_57 : decode cX12_hasIn 57 = .ok (.iload 4, 2) := by decide +kernel
theorem dX12_hasIn_59 : decode cX12_hasIn 59 = .ok (.ireturn, 1) := by decide +kernel
theorem dX12_passes_0 : decode cX12_passes 0 = .ok (.aload_n 0, 1) := by decide +kernel
theorem dX12_passes_1 : decode cX12_passes 1 = .ok (.getfield 61, 3) := by decide +kernel
theorem dX12_passes_4 : decode cX12_passes 4 = .ok (.iload_n 1, 1) := by decide +kernel
theorem dX12_passes_5 : decode cX12_passes 5 = .ok (.iaload, 1) := by decide +kernel
theorem dX12_passes_6 : decode cX12_passes 6 = .ok (.istore_n 3, 1) := by decide +kernel
theorem dX12_passes_7 : decode cX12_passes 7 = .ok (.aload_n 0, 1) := by decide +kernel
theorem dX12_passes_8 : decode cX12_passes 8 = .ok (.getfield 64, 3) := by decide +kernel
theorem dX12_passes_11 : decode cX12_passes 11 = .ok (.iload_n 1, 1) := by decide +kernel
theorem dX12_passes_12 : decode cX12_passes 12 = .ok (.iaload, 1) := by decide +kernel
theorem dX12_passes_13 : decode cX12_passes 13 = .ok (.istore 4, 2) := by decide +kernel
theorem dX12_passes_15 : decode cX12_passes 15 = .ok (.aload_n 0, 1) := by decide +kernel
theorem dX12_passes_16 : decode cX12_passes 16 = .ok (.getfield 58, 3) := by decide +kernel
theorem dX12_passes_19 : decode cX12_passes 19 = .ok (.iload_n 1, 1) := by decide +kernel
theorem dX12_passes_20 : decode cX12_passes 20 = .ok (.iaload, 1) := by decide +kernel
theorem dX12_passes_21 : decode cX12_passes 21 = .ok (.tableswitch 173 0 7 #[47, 63, 75, 87, 117, 132, 152, 164], 47) := by decide +kernel
theorem dX12_passes_68 : decode cX12_passes 68 = .ok (.aload_n 0, 1) := by decide +kernel
theorem dX12_passes_69 : decode cX12_passes 69 = .ok (.getfield 7, 3) := by decide +kernel
theorem dX12_passes_72 : decode cX12_passes 72 = .ok (.iload_n 2, 1) := by decide +kernel
theorem dX12_passes_73 : decode cX12_passes 73 = .ok (.iaload, 1) := by decide +kernel
theorem dX12_passes_74 : decode cX12_passes 74 = .ok (.iload_n 3, 1) := by decide +kernel
theorem dX12_passes_75 : decode cX12_passes 75 = .ok (.if_icmp .ne 7, 3) := by decide +kernel
theorem dX12_passes_78 : decode cX12_passes 78 = .ok (.iconst 1, 1) := by decide +kernel
theorem dX12_passes_79 : decode cX12_passes 79 = .ok (.goto 4, 3) := by decide +kernel
theorem dX12_passes_82 : decode cX12_passes 82 = .ok (.iconst 0, 1) := by decide +kernel
theorem dX12_passes_83 : decode cX12_passes 83 = .ok (.ireturn, 1) := by decide +kernel
theorem dX12_passes_84 : decode cX12_passes 84 = .ok (.aload_n 0, 1) := by decide +kernel
theorem dX12_passes_85 : decode cX12_passes 85 = .ok (.aload_n 0, 1) := by decide +kernel
theorem dX12_passes_86 : decode cX12_passes 86 = .ok (.getfield 13, 3) := by decide +kernel
theorem dX12_passes_89 : decode cX12_passes 89 = .ok (.iload_n 2, 1) := by decide +kernel
theorem dX12_passes_90 : decode cX12_passes 90 = .ok (.iaload, 1) := by decide +kernel
theorem dX12_passes_91 : decode cX12_passes 91 = .ok (.iload_n 3, 1) := by decide +kernel
theorem dX12_passes_92 : decode cX12_passes 92 = .ok (.invokevirtual 288, 3) := by decide +kernel
theorem dX12_passes_95 : decode cX12_passes 95 = .ok (.ireturn, 1) := by decide +kernel
theorem dX12_passes_96 : decode cX12_passes 96 = .ok (.aload_n 0, 1) := by decide +kernel
theorem dX12_passes_97 : decode cX12_passes 97 = .ok (.aload_n 0, 1) := by decide +kernel
theorem dX12_passes_98 : decode cX12_passes 98 = .ok (.getfield 16, 3) := by decide +kernel
theorem dX12_passes_101 : decode cX12_passes 101 = .ok (.iload_n 2, 1) := by decide +kernel
theorem dX12_passes_102 : decode cX12_passes 102 = .ok (.iaload, 1) := by decide +kernel
theorem dX12_passes_103 : decode cX12_passes 103 = .ok (.iload_n 3, 1) := by decide +kernel
theorem dX12_passes_104 : decode cX12_passes 104 = .ok (.invokevirtual 288, 3) := by decide +kernel
theorem dX12_passes_107 : decode cX12_passes 107 = .ok (.ireturn, 1) := by decide +kernel
theorem dX12_passes_108 : decode cX12_passes 108 = .ok (.iload_n 3, 1) := by decide +kernel
theorem dX12_passes_109 : decode cX12_passes 109 = .ok (.ifCond .ne 12, 3) := by decide +kernel
theorem dX12_passes_112 : decode cX12_passes 112 = .ok (.aload_n 0, 1) := by decide +kernel
theorem dX12_passes_113 : decode cX12_passes 113 = .ok (.getfield 19, 3) := by decide +kernel
theorem dX12_passes_116 : decode cX12_passes 116 = .ok (.iload_n 2, 1) := by decide +kernel
theorem dX12_passes_117 : decode cX12_passes 117 = .ok (.iaload, 1) := by decide +kernel
theorem dX12_passes_118 : decode cX12_passes 118 = .ok (.goto 9, 3) := by decide +kernel
theorem dX12_passes_121 : decode cX12_passes 121 = .ok (.aload_n 0, 1) := by decide +kernel
theorem dX12_passes_122 : decode cX12_passes 122 = .ok (.getfield 22, 3) := by decide +kernel
theorem dX12_passes_125 : decode cX12_passes 125 = .ok (.iload_n 2, 1) := by decide +kernel
theorem dX12_passes_126 : decode cX12_passes 126 = .ok (.iaload, 1) := by decide +kernel
theorem dX12_passes_127 : decode cX12_passes 127 = .ok (.iload 4, 2) := by decide +kernel
theorem dX12_passes_129 : decode cX12_passes 129 = .ok (.if_icmp .ne 7, 3) := by decide +kernel
theorem dX12_passes_132 : decode cX12_passes 132 = .ok (.iconst 1, 1) := by decide +kernel
theorem dX12_passes_133 : decode cX12_passes 133 = .ok (.goto 4, 3) := by decide +kernel
theorem dX12_passes_136 : decode cX12_passes 136 = .ok (.iconst 0, 1) := by decide +kernel
theorem dX12_passes_137 : decode cX12_passes 137 = .ok (.ireturn, 1) := by decide +kernel
theorem dX12_passes_138 : decode cX12_passes 138 = .ok (.aload_n 0, 1) := by decide +kernel
theorem dX12_passes_139 : decode cX12_passes 139 = .ok (.iload_n 3, 1) := by decide +kernel
theorem dX12_passes_140 : decode cX12_passes 140 = .ok (.iload 4, 2) := by decide +kernel
theorem dX12_passes_142 : decode cX12_passes 142 = .ok (.aload_n 0, 1) := by decide +kernel
theorem dX12_passes_143 : decode cX12_passes 143 = .ok (.iload_n 2, 1) := by decide +kernel
theorem dX12_passes_144 : decode cX12_passes 144 = .ok (.invokevirtual 248, 3) := by decide +kernel
theorem dX12_passes_147 : decode cX12_passes 147 = .ok (.iconst 1, 1) := by decide +kernel
theorem dX12_passes_148 : decode cX12_passes 148 = .ok (.iadd, 1) := by decide +kernel
theorem dX12_passes_149 : decode cX12_passes 149 = .ok (.invokevirtual 294, 3) := by decide +kernel
theorem dX12_passes_152 : decode cX12_passes 152 = .ok (.ireturn, 1) := by decide +kernel
theorem dX12_passes_153 : decode cX12_passes 153 = .ok (.aload_n 0, 1) := by decide +kernel
theorem dX12_passes_154 : decode cX12_passes 154 = .ok (.aload_n 0, 1) := by decide +kernel
theorem dX12_passes_155 : decode cX12_passes 155 = .ok (.getfield 187, 3) := by decide +kernel
theorem dX12_passes_158 : decode cX12_passes 158 = .ok (.iload_n 3, 1) := by decide +kernel
theorem dX12_passes_159 : decode cX12_passes 159 = .ok (.iaload, 1) := by decide +kernel
theorem dX12_passes_160 : decode cX12_passes 160 = .ok (.iload_n 2, 1) := by decide +kernel
theorem dX12_passes_161 : decode cX12_passes 161 = .ok (.invokevirtual 288, 3) := by decide +kernel
theorem dX12_passes_164 : decode cX12_passes 164 = .ok (.ifCond .ne 7, 3) := by decide +kernel
theorem dX12_passes_167 : decode cX12_passes 167 = .ok (.iconst 1, 1) := by decide +kernel
theorem dX12_passes_168 : decode cX12_passes 168 = .ok (.goto 4, 3) := by decide +kernel
theorem dX12_passes_171 : decode cX12_passes 171 = .ok (.iconst 0, 1) := by decide +kernel
theorem dX12_passes_172 : decode cX12_passes 172 = .ok (.ireturn, 1) := by decide +kernel
theorem dX12_passes_173 : decode cX12_passes 173 = .ok (.aload_n 0, 1) := by decide +kernel
theorem dX12_passes_174 : decode cX12_passes 174 = .ok (.aload_n 0, 1) := by decide +kernel
theorem dX12_passes_175 : decode cX12_passes 175 = .ok (.getfield 187, 3) := by decide +kernel
theorem dX12_passes_178 : decode cX12_passes 178 = .ok (.iload_n 3, 1) := by decide +kernel
theorem dX12_passes_179 : decode cX12_passes 179 = .ok (.iaload, 1) := by decide +kernel
theorem dX12_passes_180 : decode cX12_passes 180 = .ok (.iload_n 2, 1) := by decide +kernel
theorem dX12_passes_181 : decode cX12_passes 181 = .ok (.invokevirtual 288, 3) := by decide +kernel
theorem dX12_passes_184 : decode cX12_passes 184 = .ok (.ireturn, 1) := by decide +kernel
theorem dX12_passes_185 : decode cX12_passes 185 = .ok (.aload_n 0, 1) := by decide +kernel
theorem dX12_passes_186 : decode cX12_passes 186 = .ok (.iload_n 3, 1) := by decide +kernel
theorem dX12_passes_187 : decode cX12_passes 187 = .ok (.iload 4, 2) := by decide +kernel
theorem dX12_passes_189 : decode cX12_passes 189 = .ok (.iload_n 2, 1) := by decide +kernel
theorem dX12_passes_190 : decode cX12_passes 190 = .ok (.invokevirtual 297, 3) := by decide +kernel
theorem dX12_passes_193 : decode cX12_passes 193 = .ok (.ireturn, 1) := by decide +kernel
theorem dX12_passes_194 : decode cX12_passes 194 = .ok (.iconst 1, 1) := by decide +kernel
theorem dX12_passes_195 : decode cX12_passes 195 = .ok (.ireturn, 1) := by decide +kernel
theorem dX12_compound_0 : decode cX12_compound 0 = .ok (.iconst 0, 1) := by decide +kernel
theorem dX12_compound_1 : decode cX12_compound 1 = .ok (.istore_n 3, 1) := by decide +kernel
theorem dX12_compound_2 : decode cX12_compound 2 = .ok (.iconst 0, 1) := by decide +kernel
theorem dX12_compound_3 : decode cX12_compound 3 = .ok (.istore 4, 2) := by decide +kernel
theorem dX12_compound_5 : decode cX12_compound 5 = .ok (.iconst 0, 1) := by decide +kernel
theorem dX12_compound_6 : decode cX12_compound 6 = .ok (.istore 5, 2) := by decide +kernel
theorem dX12_compound_8 : decode cX12_compound 8 = .ok (.iload 5, 2) := by decide +kernel
theorem dX12_compound_10 : decode cX12_compound 10 = .ok (.aload_n 0, 1) := by decide +kernel
theorem dX12_compound_11 : decode cX12_compound 11 = .ok (.getfield 55, 3) := by decide +kernel
theorem dX12_compound_14 : decode cX12_compound 14 = .ok (.iconst 4, 1) := by decide +kernel
theorem dX12_compound_15 : decode cX12_compound 15 = .ok (.iload_n 1, 1) := by decide +kernel
theorem dX12_compound_16 : decode cX12_compound 16 = .ok (.imul, 1) := by decide +kernel
theorem dX12_compound_17 : decode cX12_compound 17 = .ok (.iload_n 2, 1) := by decide +kernel
theorem dX12_compound_18 : decode cX12_compound 18 = .ok (.iadd, 1) := by decide +kernel
theorem dX12_compound_19 : decode cX12_compound 19 = .ok (.iaload, 1) := by decide +kernel
theorem dX12_compound_20 : decode cX12_compound 20 = .ok (.if_icmp .ge 38, 3) := by decide +kernel
theorem dX12_compound_23 : decode cX12_compound 23 = .ok (.iload_n 3, 1) := by decide +kernel
theorem dX12_compound_24 : decode cX12_compound 24 = .ok (.aload_n 0, 1) := by decide +kernel
theorem dX12_compound_25 : decode cX12_compound 25 = .ok (.getfield 58, 3) := by decide +kernel
theorem dX12_compound_28 : decode cX12_compound 28 = .ok (.bipush 16, 2) := by decide +kernel
theorem dX12_compound_30 : decode cX12_compound 30 = .ok (.iload_n 1, 1) := by decide +kernel
theorem dX12_compound_31 : decode cX12_compound 31 = .ok (.imul, 1) := by decide +kernel
theorem dX12_compound_32 : decode cX12_compound 32 = .ok (.iconst 4, 1) := by decide +kernel
theorem dX12_compound_33 : decode cX12_compound 33 = .ok (.iload_n 2, 1) := by decide +kernel
theorem dX12_compound_34 : decode cX12_compound 34 = .ok (.imul, 1) := by decide +kernel
theorem dX12_compound_35 : decode cX12_compound 35 = .ok (.iadd, 1) := by decide +kernel
theorem dX12_compound_36 : decode cX12_compound 36 = .ok (.iload 5, 2) := by decide +kernel
theorem dX12_compound_38 : decode cX12_compound 38 = .ok (.iadd, 1) := by decide +kernel
theorem dX12_compound_39 : decode cX12_compound 39 = .ok (.iaload, 1) := by decide +kernel
theorem dX12_compound_40 : decode cX12_compound 40 = .ok (.bipush 8, 2) := by decide +kernel
theorem dX12_compound_42 : decode cX12_compound 42 = .ok (.if_icmp .ne 7, 3) := by decide +kernel
theorem dX12_compound_45 : decode cX12_compound 45 = .ok (.iconst 1, 1) := by decide +kernel
theorem dX12_compound_46 : decode cX12_compound 46 = .ok (.goto 4, 3) := by decide +kernel
theorem dX12_compound_49 : decode cX12_compound 49 = .ok (.iconst 0, 1) := by decide +kernel
theorem dX12_compound_50 : decode cX12_compound 50 = .ok (.ior, 1) := by decide +kernel
theorem dX12_compound_51 : decode cX12_compound 51 = .ok (.istore_n 3, 1) := by decide +kernel
theorem dX12_compound_52 : decode cX12_compound 52 = .ok (.iinc 5 1, 3) := by decide +kernel
theorem dX12_compound_55 : decode cX12_compound 55 = .ok (.goto (-47), 3) := by decide +kernel
theorem dX12_compound_58 : decode cX12_compound 58 = .ok (.iconst 0, 1) := by decide +kernel
theorem dX12_compound_59 : decode cX12_compound 59 = .ok (.istore 5, 2) := by decide +kernel
theorem dX12_compound_61 : decode cX12_compound 61 = .ok (.iload 5, 2) := by decide +kernel
theorem dX12_compound_63 : decode cX12_compound 63 = .ok (.aload_n 0, 1) := by decide +kernel
theorem dX12_compound_64 : decode cX12_compound 64 = .ok (.getfield 217, 3) := by decide +kernel
theorem dX12_compound_67 : decode cX12_compound 67 = .ok (.if_icmp .ge 108, 3) := by decide +kernel
theorem dX12_compound_70 : decode cX12_compound 70 = .ok (.iload_n 3, 1) := by decide +kernel
theorem dX12_compound_71 : decode cX12_compound 71 = .ok (.ifCond .eq 20, 3) := by decide +kernel
theorem dX12_compound_74 : decode cX12_compound 74 = .ok (.iload 5, 2) := by decide +kernel
theorem dX12_compound_76 : decode cX12_compound 76 = .ok (.aload_n 0, 1) := by decide +kernel
theorem dX12_compound_77 : decode cX12_compound 77 = .ok (.getfield 278, 3) := by decide +kernel
theorem dX12_compound_80 : decode cX12_compound 80 = .ok (.if_icmp .ne 7, 3) := by decide +kernel
theorem dX12_compound_83 : decode cX12_compound 83 = .ok (.iconst 1, 1) := by decide +kernel
theorem dX12_compound_84 : decode cX12_compound 84 = .ok (.goto 17, 3) := by decide +kernel
theorem dX12_compound_87 : decode cX12_compound 87 = .ok (.iconst 0, 1) := by decide +kernel
theorem dX12_compound_88 : decode cX12_compound 88 = .ok (.goto 13, 3) := by decide +kernel
theorem dX12_compound_91 : decode cX12_compound 91 = .ok (.aload_n 0, 1) := by decide +kernel
theorem dX12_compound_92 : decode cX12_compound 92 = .ok (.aload_n 0, 1) := by decide +kernel
theorem dX12_compound_93 : decode cX12_compound 93 = .ok (.getfield 300, 3) := by decide +kernel
theorem dX12_compound_96 : decode cX12_compound 96 = .ok (.iload 5, 2) := by decide +kernel
theorem dX12_compound_98 : decode cX12_compound 98 = .ok (.invokevirtual 288, 3) := by decide +kernel
theorem dX12_compound_101 : decode cX12_compound 101 = .ok (.istore 6, 2) := by decide +kernel
theorem dX12_compound_103 : decode cX12_compound 103 = .ok (.iconst 0, 1) := by decide +kernel
theorem dX12_compound_104 : decode cX12_compound 104 = .ok (.istore 7, 2) := by decide +kernel
theorem dX12_compound_106 : decode cX12_compound 106 = .ok (.iload 7, 2) := by decide +kernel
theorem dX12_compound_108 : decode cX12_compound 108 = .ok (.aload_n 0, 1) := by decide +kernel
theorem dX12_compound_109 : decode cX12_compound 109 = .ok (.getfield 55, 3) := by decide +kernel
theorem dX12_compound_112 : decode cX12_compound 112 = .ok (.iconst 4, 1) := by decide +kernel
theorem dX12_compound_113 : decode cX12_compound 113 = .ok (.iload_n 1, 1) := by decide +kernel
theorem dX12_compound_114 : decode cX12_compound 114 = .ok (.imul, 1) := by decide +kernel
theorem dX12_compound_115 : decode cX12_compound 115 = .ok (.iload_n 2, 1) := by decide +kernel
theorem dX12_compound_116 : decode cX12_compound 116 = .ok (.iadd, 1) := by decide +kernel
theorem dX12_compound_117 : decode cX12_compound 117 = .ok (.iaload, 1) := by decide +kernel
theorem dX12_compound_118 : decode cX12_compound 118 = .ok (.if_icmp .ge 33, 3) := by decide +kernel
theorem dX12_compound_121 : decode cX12_compound 121 = .ok (.iload 6, 2) := by decide +kernel
theorem dX12_compound_123 : decode cX12_compound 123 = .ok (.ifCond .eq 28, 3) := by decide +kernel
theorem dX12_compound_126 : decode cX12_compound 126 = .ok (.aload_n 0, 1) := by decide +kernel
theorem dX12_compound_127 : decode cX12_compound 127 = .ok (.bipush 16, 2) := by decide +kernel
theorem dX12_compound_129 : decode cX12_compound 129 = .ok (.iload_n 1, 1) := by decide +kernel
theorem dX12_compound_130 : decode cX12_compound 130 = .ok (.imul, 1) := by decide +kernel
theorem dX12_compound_131 : decode cX12_compound 131 = .ok (.iconst 4, 1) := by decide +kernel
theorem dX12_compound_132 : decode cX12_compound 132 = .ok (.iload_n 2, 1) := by decide +kernel
theorem dX12_compound_133 : decode cX12_compound 133 = .ok (.imul, 1) := by decide +kernel
theorem dX12_compound_134 : decode cX12_compound 134 = .ok (.iadd, 1) := by decide +kernel
theorem dX12_compound_135 : decode cX12_compound 135 = .ok (.iload 7, 2) := by decide +kernel
theorem dX12_compound_137 : decode cX12_compound 137 = .ok (.iadd, 1) := by decide +kernel
theorem dX12_compound_138 : decode cX12_compound 138 = .ok (.iload 5, 2) := by decide +kernel
theorem dX12_compound_140 : decode cX12_compound 140 = .ok (.invokevirtual 303, 3) := by decide +kernel
theorem dX12_compound_143 : decode cX12_compound 143 = .ok (.istore 6, 2) := by decide +kernel
theorem dX12_compound_145 : decode cX12_compound 145 = .ok (.iinc 7 1, 3) := by decide +kernel
theorem dX12_compound_148 : decode cX12_compound 148 = .ok (.goto (-42), 3) := by decide +kernel
theorem dX12_compound_151 : decode cX12_compound 151 = .ok (.iload 4, 2) := by decide +kernel
theorem dX12_compound_153 : decode cX12_compound 153 = .ok (.iload 6, 2) := by decide +kernel
theorem dX12_compound_155 : decode cX12_compound 155 = .ok (.ifCond .eq 10, 3) := by decide +kernel
theorem dX12_compound_158 : decode cX12_compound 158 = .ok (.iconst 1, 1) := by decide +kernel
theorem dX12_compound_159 : decode cX12_compound 159 = .ok (.iload 5, 2) := by decide +kernel
theorem dX12_compound_161 : decode cX12_compound 161 = .ok (.ishl, 1) := by decide +kernel
theorem dX12_compound_162 : decode cX12_compound 162 = .ok (.goto 4, 3) := by decide +kernel
theorem dX12_compound_165 : decode cX12_compound 165 = .ok (.iconst 0, 1) := by decide +kernel
theorem dX12_compound_166 : decode cX12_compound 166 = .ok (.ior, 1) := by decide +kernel
theorem dX12_compound_167 : decode cX12_compound 167 = .ok (.istore 4, 2) := by decide +kernel
theorem dX12_compound_169 : decode cX12_compound 169 = .ok (.iinc 5 1, 3) := by decide +kernel
theorem dX12_compound_172 : decode cX12_compound 172 = .ok (.goto (-111), 3) := by decide +kernel
theorem dX12_compound_175 : decode cX12_compound 175 = .ok (.iload 4, 2) := by decide +kernel
theorem dX12_compound_177 : decode cX12_compound 177 = .ok (.ireturn, 1) := by decide +kernel
theorem dX12_stepped_0 : decode cX12_stepped 0 = .ok (.iconst 0, 1) := by decide +kernel
theorem dX12_stepped_1 : decode cX12_stepped 1 = .ok (.istore 4, 2) := by decide +kernel
theorem dX12_stepped_3 : decode cX12_stepped 3 = .ok (.iconst 0, 1) := by decide +kernel
theorem dX12_stepped_4 : decode cX12_stepped 4 = .ok (.istore 5, 2) := by decide +kernel
theorem dX12_stepped_6 : decode cX12_stepped 6 = .ok (.iload 5, 2) := by decide +kernel
theorem dX12_stepped_8 : decode cX12_stepped 8 = .ok (.aload_n 0, 1) := by decide +kernel
theorem dX12_stepped_9 : decode cX12_stepped 9 = .ok (.getfield 217, 3) := by decide +kernel
theorem dX12_stepped_12 : decode cX12_stepped 12 = .ok (.if_icmp .ge 90, 3) := by decide +kernel
theorem dX12_stepped_15 : decode cX12_stepped 15 = .ok (.iconst 0, 1) := by decide +kernel
theorem dX12_stepped_16 : decode cX12_stepped 16 = .ok (.istore 6, 2) := by decide +kernel
theorem dX12_stepped_18 : decode cX12_stepped 18 = .ok (.iconst 0, 1) := by decide +kernel
theorem dX12_stepped_19 : decode cX12_stepped 19 = .ok (.istore 7, 2) := by decide +kernel
theorem dX12_stepped_21 : decode cX12_stepped 21 = .ok (.iload 7, 2) := by decide +kernel
theorem dX12_stepped_23 : decode cX12_stepped 23 = .ok (.aload_n 0, 1) := by decide +kernel
theorem dX12_stepped_24 : decode cX12_stepped 24 = .ok (.getfield 217, 3) := by decide +kernel
theorem dX12_stepped_27 : decode cX12_stepped 27 = .ok (.if_icmp .ge 51, 3) := by decide +kernel
theorem dX12_stepped_30 : decode cX12_stepped 30 = .ok (.aload_n 0, 1) := by decide +kernel
theorem dX12_stepped_31 : decode cX12_stepped 31 = .ok (.iload_n 2, 1) := by decide +kernel
theorem dX12_stepped_32 : decode cX12_stepped 32 = .ok (.iload 5, 2) := by decide +kernel
theorem dX12_stepped_34 : decode cX12_stepped 34 = .ok (.invokevirtual 288, 3) := by decide +kernel
theorem dX12_stepped_37 : decode cX12_stepped 37 = .ok (.ifCond .eq 41, 3) := by decide +kernel
theorem dX12_stepped_40 : decode cX12_stepped 40 = .ok (.iload 6, 2) := by decide +kernel
theorem dX12_stepped_42 : decode cX12_stepped 42 = .ok (.aload_n 0, 1) := by decide +kernel
theorem dX12_stepped_43 : decode cX12_stepped 43 = .ok (.iload_n 1, 1) := by decide +kernel
theorem dX12_stepped_44 : decode cX12_stepped 44 = .ok (.iload 7, 2) := by decide +kernel
theorem dX12_stepped_46 : decode cX12_stepped 46 = .ok (.invokevirtual 288, 3) := by decide +kernel
theorem dX12_stepped_49 : decode cX12_stepped 49 = .ok (.ifCond .eq 19, 3) := by decide +kernel
theorem dX12_stepped_52 : decode cX12_stepped 52 = .ok (.aload_n 0, 1) := by decide +kernel
theorem dX12_stepped_53 : decode cX12_stepped 53 = .ok (.iload_n 3, 1) := by decide +kernel
theorem dX12_stepped_54 : decode cX12_stepped 54 = .ok (.iload 5, 2) := by decide +kernel
theorem dX12_stepped_56 : decode cX12_stepped 56 = .ok (.iload 7, 2) := by decide +kernel
theorem dX12_stepped_58 : decode cX12_stepped 58 = .ok (.invokevirtual 291, 3) := by decide +kernel
theorem dX12_stepped_61 : decode cX12_stepped 61 = .ok (.ifCond .eq 7, 3) := by decide +kernel
theorem dX12_stepped_64 : decode cX12_stepped 64 = .ok (.iconst 1, 1) := by decide +kernel
theorem dX12_stepped_65 : decode cX12_stepped 65 = .ok (.goto 4, 3) := by decide +kernel
theorem dX12_stepped_68 : decode cX12_stepped 68 = .ok (.iconst 0, 1) := by decide +kernel
theorem dX12_stepped_69 : decode cX12_stepped 69 = .ok (.ior, 1) := by decide +kernel
theorem dX12_stepped_70 : decode cX12_stepped 70 = .ok (.istore 6, 2) := by decide +kernel
theorem dX12_stepped_72 : decode cX12_stepped 72 = .ok (.iinc 7 1, 3) := by decide +kernel
theorem dX12_stepped_75 : decode cX12_stepped 75 = .ok (.goto (-54), 3) := by decide +kernel
theorem dX12_stepped_78 : decode cX12_stepped 78 = .ok (.iload 4, 2) := by decide +kernel
theorem dX12_stepped_80 : decode cX12_stepped 80 = .ok (.iload 6, 2) := by decide +kernel
theorem dX12_stepped_82 : decode cX12_stepped 82 = .ok (.ifCond .eq 10, 3) := by decide +kernel
theorem dX12_stepped_85 : decode cX12_stepped 85 = .ok (.iconst 1, 1) := by decide +kernel
theorem dX12_stepped_86 : decode cX12_stepped 86 = .ok (.iload 5, 2) := by decide +kernel
theorem dX12_stepped_88 : decode cX12_stepped 88 = .ok (.ishl, 1) := by decide +kernel
theorem dX12_stepped_89 : decode cX12_stepped 89 = .ok (.goto 4, 3) := by decide +kernel
theorem dX12_stepped_92 : decode cX12_stepped 92 = .ok (.iconst 0, 1) := by decide +kernel
theorem dX12_stepped_93 : decode cX12_stepped 93 = .ok (.ior, 1) := by decide +kernel
theorem dX12_stepped_94 : decode cX12_stepped 94 = .ok (.istore 4, 2) := by decide +kernel
theorem dX12_stepped_96 : decode cX12_stepped 96 = .ok (.iinc 5 1, 3) := by decide +kernel
theorem dX12_stepped_99 : decode cX12_stepped 99 = .ok (.goto (-93), 3) := by decide +kernel
theorem dX12_stepped_102 : decode cX12_stepped 102 = .ok (.iload 4, 2) := by decide +kernel
theorem dX12_stepped_104 : decode cX12_stepped 104 = .ok (.ireturn, 1) := by decide +kernel
theorem dX12_solve_0 : decode cX12_solve 0 = .ok (.aload_n 0, 1) := by decide +kernel
theorem dX12_solve_1 : decode cX12_solve 1 = .ok (.iload_n 1, 1) := by decide +kernel
theorem dX12_solve_2 : decode cX12_solve 2 = .ok (.iconst 0, 1) := by decide +kernel
theorem dX12_solve_3 : decode cX12_solve 3 = .ok (.invokevirtual 306, 3) := by decide +kernel
theorem dX12_solve_6 : decode cX12_solve 6 = .ok (.istore_n 2, 1) := by decide +kernel
theorem dX12_solve_7 : decode cX12_solve 7 = .ok (.iconst 1, 1) := by decide +kernel
theorem dX12_solve_8 : decode cX12_solve 8 = .ok (.istore_n 3, 1) := by decide +kernel
theorem dX12_solve_9 : decode cX12_solve 9 = .ok (.iload_n 3, 1) := by decide +kernel
theorem dX12_solve_10 : decode cX12_solve 10 = .ok (.aload_n 0, 1) := by decide +kernel
theorem dX12_solve_11 : decode cX12_solve 11 = .ok (.getfield 49, 3) := by decide +kernel
theorem dX12_solve_14 : decode cX12_solve 14 = .ok (.iload_n 1, 1) := by decide +kernel
theorem dX12_solve_15 : decode cX12_solve 15 = .ok (.iaload, 1) := by decide +kernel
theorem dX12_solve_16 : decode cX12_solve 16 = .ok (.if_icmp .ge 31, 3) := by decide +kernel
theorem dX12_solve_19 : decode cX12_solve 19 = .ok (.aload_n 0, 1) := by decide +kernel
theorem dX12_solve_20 : decode cX12_solve 20 = .ok (.iload_n 2, 1) := by decide +kernel
theorem dX12_solve_21 : decode cX12_solve 21 = .ok (.aload_n 0, 1) := by decide +kernel
theorem dX12_solve_22 : decode cX12_solve 22 = .ok (.iload_n 1, 1) := by decide +kernel
theorem dX12_solve_23 : decode cX12_solve 23 = .ok (.iload_n 3, 1) := by decide +kernel
theorem dX12_solve_24 : decode cX12_solve 24 = .ok (.invokevirtual 306, 3) := by decide +kernel
theorem dX12_solve_27 : decode cX12_solve 27 = .ok (.aload_n 0, 1) := by decide +kernel
theorem dX12_solve_28 : decode cX12_solve 28 = .ok (.getfield 52, 3) := by decide +kernel
theorem dX12_solve_31 : decode cX12_solve 31 = .ok (.iconst 4, 1) := by decide +kernel
theorem dX12_solve_32 : decode cX12_solve 32 = .ok (.iload_n 1, 1) := by decide +kernel
theorem dX12_solve_33 : decode cX12_solve 33 = .ok (.imul, 1) := by decide +kernel
theorem dX12_solve_34 : decode cX12_solve 34 = .ok (.iload_n 3, 1) := by decide +kernel
theorem dX12_solve_35 : decode cX12_solve 35 = .ok (.iadd, 1) := by decide +kernel
theorem dX12_solve_36 : decode cX12_solve 36 = .ok (.iaload, 1) := by decide +kernel
theorem dX12_solve_37 : decode cX12_solve 37 = .ok (.invokevirtual 309, 3) := by decide +kernel
theorem dX12_solve_40 : decode cX12_solve 40 = .ok (.istore_n 2, 1) := by decide +kernel
theorem dX12_solve_41 : decode cX12_solve 41 = .ok (.iinc 3 1, 3) := by decide +kernel
theorem dX12_solve_44 : decode cX12_solve 44 = .ok (.goto (-35), 3) := by decide +kernel
theorem dX12_solve_47 : decode cX12_solve 47 = .ok (.aload_n 0, 1) := by decide +kernel
theorem dX12_solve_48 : decode cX12_solve 48 = .ok (.getfield 70, 3) := by decide +kernel
theorem dX12_solve_51 : decode cX12_solve 51 = .ok (.iload_n 1, 1) := by decide +kernel
theorem dX12_solve_52 : decode cX12_solve 52 = .ok (.iaload, 1) := by decide +kernel
theorem dX12_solve_53 : decode cX12_solve 53 = .ok (.ifCond .ge 5, 3) := by decide +kernel
theorem dX12_solve_56 : decode cX12_solve 56 = .ok (.iload_n 2, 1) := by decide +kernel
theorem dX12_solve_57 : decode cX12_solve 57 = .ok (.ireturn, 1) := by decide +kernel
theorem dX12_solve_58 : decode cX12_solve 58 = .ok (.iconst 0, 1) := by decide +kernel
theorem dX12_solve_59 : decode cX12_solve 59 = .ok (.istore_n 3, 1) := by decide +kernel
theorem dX12_solve_60 : decode cX12_solve 60 = .ok (.iconst 0, 1) := by decide +kernel
theorem dX12_solve_61 : decode cX12_solve 61 = .ok (.istore 4, 2) := by decide +kernel
theorem dX12_solve_63 : decode cX12_solve 63 = .ok (.iload 4, 2) := by decide +kernel
theorem dX12_solve_65 : decode cX12_solve 65 = .ok (.aload_n 0, 1) := by decide +kernel
theorem dX12_solve_66 : decode cX12_solve 66 = .ok (.getfield 217, 3) := by decide +kernel
theorem dX12_solve_69 : decode cX12_solve 69 = .ok (.if_icmp .ge 59, 3) := by decide +kernel
theorem dX12_solve_72 : decode cX12_solve 72 = .ok (.aload_n 0, 1) := by decide +kernel
theorem dX12_solve_73 : decode cX12_solve 73 = .ok (.iload 4, 2) := by decide +kernel
theorem dX12_solve_75 : decode cX12_solve 75 = .ok (.invokevirtual 242, 3) := by decide +kernel
theorem dX12_solve_78 : decode cX12_solve 78 = .ok (.istore 5, 2) := by decide +kernel
theorem dX12_solve_80 : decode cX12_solve 80 = .ok (.iload_n 3, 1) := by decide +kernel
theorem dX12_solve_81 : decode cX12_solve 81 = .ok (.aload_n 0, 1) := by decide +kernel
theorem dX12_solve_82 : decode cX12_solve 82 = .ok (.getfield 25, 3) := by decide +kernel
theorem dX12_solve_85 : decode cX12_solve 85 = .ok (.iload 4, 2) := by decide +kernel
theorem dX12_solve_87 : decode cX12_solve 87 = .ok (.iaload, 1) := by decide +kernel
theorem dX12_solve_88 : decode cX12_solve 88 = .ok (.aload_n 0, 1) := by decide +kernel
theorem dX12_solve_89 : decode cX12_solve 89 = .ok (.getfield 70, 3) := by decide +kernel
theorem dX12_solve_92 : decode cX12_solve 92 = .ok (.iload_n 1, 1) := by decide +kernel
theorem dX12_solve_93 : decode cX12_solve 93 = .ok (.iaload, 1) := by decide +kernel
theorem dX12_solve_94 : decode cX12_solve 94 = .ok (.if_icmp .ne 25, 3) := by decide +kernel
theorem dX12_solve_97 : decode cX12_solve 97 = .ok (.iload 5, 2) := by decide +kernel
theorem dX12_solve_99 : decode cX12_solve 99 = .ok (.ifCond .lt 20, 3) := by decide +kernel
theorem dX12_solve_102 : decode cX12_solve 102 = .ok (.aload_n 0, 1) := by decide +kernel
theorem dX12_solve_103 : decode cX12_solve 103 = .ok (.iload_n 2, 1) := by decide +kernel
theorem dX12_solve_104 : decode cX12_solve 104 = .ok (.iload 5, 2) := by decide +kernel
theorem dX12_solve_106 : decode cX12_solve 106 = .ok (.invokevirtual 288, 3) := by decide +kernel
theorem dX12_solve_109 : decode cX12_solve 109 = .ok (.ifCond .eq 10, 3) := by decide +kernel
theorem dX12_solve_112 : decode cX12_solve 112 = .ok (.iconst 1, 1) := by decide +kernel
theorem dX12_solve_113 : decode cX12_solve 113 = .ok (.iload 4, 2) := by decide +kernel
theorem dX12_solve_115 : decode cX12_solve 115 = .ok (.ishl, 1) := by decide +kernel
theorem dX12_solve_116 : decode cX12_solve 116 = .ok (.goto 4, 3) := by decide +kernel
theorem dX12_solve_119 : decode cX12_solve 119 = .ok (.iconst 0, 1) := by decide +kernel
theorem dX12_solve_120 : decode cX12_solve 120 = .ok (.ior, 1) := by decide +kernel
theorem dX12_solve_121 : decode cX12_solve 121 = .ok (.istore_n 3, 1) := by decide +kernel
theorem dX12_solve_122 : decode cX12_solve 122 = .ok (.iinc 4 1, 3) := by decide +kernel
theorem dX12_solve_125 : decode cX12_solve 125 = .ok (.goto (-62), 3) := by decide +kernel
theorem dX12_solve_128 : decode cX12_solve 128 = .ok (.iload_n 3, 1) := by decide +kernel
theorem dX12_solve_129 : decode cX12_solve 129 = .ok (.ireturn, 1) := by decide +kernel
theorem dX12_look_0 : decode cX12_look 0 = .ok (.aload_n 0, 1) := by decide +kernel
theorem dX12_look_1 : decode cX12_look 1 = .ok (.iload_n 1, 1) := by decide +kernel
theorem dX12_look_2 : decode cX12_look 2 = .ok (.putfield 278, 3) := by decide +kernel
theorem dX12_look_5 : decode cX12_look 5 = .ok (.aload_n 0, 1) := by decide +kernel
theorem dX12_look_6 : decode cX12_look 6 = .ok (.iconst 0, 1) := by decide +kernel
theorem dX12_look_7 : decode cX12_look 7 = .ok (.putfield 300, 3) := by decide +kernel
theorem dX12_look_10 : decode cX12_look 10 = .ok (.iconst 0, 1) := by decide +kernel
theorem dX12_look_11 : decode cX12_look 11 = .ok (.istore_n 2, 1) := by decide +kernel
theorem dX12_look_12 : decode cX12_look 12 = .ok (.iload_n 2, 1) := by decide +kernel
theorem dX12_look_13 : decode cX12_look 13 = .ok (.aload_n 0, 1) := by decide +kernel
theorem dX12_look_14 : decode cX12_look 14 = .ok (.getfield 217, 3) := by decide +kernel
theorem dX12_look_17 : decode cX12_look 17 = .ok (.if_icmp .ge 34, 3) := by decide +kernel
theorem dX12_look_20 : decode cX12_look 20 = .ok (.aload_n 0, 1) := by decide +kernel
theorem dX12_look_21 : decode cX12_look 21 = .ok (.dup, 1) := by decide +kernel
theorem dX12_look_22 : decode cX12_look 22 = .ok (.getfield 300, 3) := by decide +kernel
theorem dX12_look_25 : decode cX12_look 25 = .ok (.aload_n 0, 1) := by decide +kernel
theorem dX12_look_26 : decode cX12_look 26 = .ok (.iload_n 2, 1) := by decide +kernel
theorem dX12_look_27 : decode cX12_look 27 = .ok (.invokevirtual 242, 3) := by decide +kernel
theorem dX12_look_30 : decode cX12_look 30 = .ok (.iload_n 1, 1) := by decide +kernel
theorem dX12_look_31 : decode cX12_look 31 = .ok (.if_icmp .ne 9, 3) := by decide +kernel
theorem dX12_look_34 : decode cX12_look 34 = .ok (.iconst 1, 1) := by decide +kernel
theorem dX12_look_35 : decode cX12_look 35 = .ok (.iload_n 2, 1) := by decide +kernel
theorem dX12_look_36 : decode cX12_look 36 = .ok (.ishl, 1) := by decide +kernel
theorem dX12_look_37 : decode cX12_look 37 = .ok (.goto 4, 3) := by decide +kernel
theorem dX12_look_40 : decode cX12_look 40 = .ok (.iconst 0, 1) := by decide +kernel
theorem dX12_look_41 : decode cX12_look 41 = .ok (.ior, 1) := by decide +kernel
theorem dX12_look_42 : decode cX12_look 42 = .ok (.putfield 300, 3) := by decide +kernel
theorem dX12_look_45 : decode cX12_look 45 = .ok (.iinc 2 1, 3) := by decide +kernel
theorem dX12_look_48 : decode cX12_look 48 = .ok (.goto (-36), 3) := by decide +kernel
theorem dX12_look_51 : decode cX12_look 51 = .ok (.iconst 0, 1) := by decide +kernel
theorem dX12_look_52 : decode cX12_look 52 = .ok (.istore_n 2, 1) := by decide +kernel
theorem dX12_look_53 : decode cX12_look 53 = .ok (.iload_n 2, 1) := by decide +kernel
theorem dX12_look_54 : decode cX12_look 54 = .ok (.aload_n 0, 1) := by decide +kernel
theorem dX12_look_55 : decode cX12_look 55 = .ok (.getfield 313, 3) := by decide +kernel
theorem dX12_look_58 : decode cX12_look 58 = .ok (.if_icmp .ge 20, 3) := by decide +kernel
theorem dX12_look_61 : decode cX12_look 61 = .ok (.aload_n 0, 1) := by decide +kernel
theorem dX12_look_62 : decode cX12_look 62 = .ok (.getfield 187, 3) := by decide +kernel
theorem dX12_look_65 : decode cX12_look 65 = .ok (.iload_n 2, 1) := by decide +kernel
theorem dX12_look_66 : decode cX12_look 66 = .ok (.aload_n 0, 1) := by decide +kernel
theorem dX12_look_67 : decode cX12_look 67 = .ok (.iload_n 2, 1) := by decide +kernel
theorem dX12_look_68 : decode cX12_look 68 = .ok (.invokevirtual 316, 3) := by decide +kernel
theorem dX12_look_71 : decode cX12_look 71 = .ok (.iastore, 1) := by decide +kernel
theorem dX12_look_72 : decode cX12_look 72 = .ok (.iinc 2 1, 3) := by decide +kernel
theorem dX12_look_75 : decode cX12_look 75 = .ok (.goto (-22), 3) := by decide +kernel
theorem dX12_look_78 : decode cX12_look 78 = .ok (.return_, 1) := by decide +kernel
theorem dX12_hits_0 : decode cX12_hits 0 = .ok (.iconst 0, 1) := by decide +kernel
theorem dX12_hits_1 : decode cX12_hits 1 = .ok (.istore_n 1, 1) := by decide +kernel
theorem dX12_hits_2 : decode cX12_hits 2 = .ok (.iload_n 1, 1) := by decide +kernel
theorem dX12_hits_3 : decode cX12_hits 3 = .ok (.aload_n 0, 1) := by decide +kernel
theorem dX12_hits_4 : decode cX12_hits 4 = .ok (.getfield 319, 3) := by decide +kernel
theorem dX12_hits_7 : decode cX12_hits 7 = .ok (.if_icmp .ge 71, 3) := by decide +kernel
theorem dX12_hits_10 : decode cX12_hits 10 = .ok (.aload_n 0, 1) := by decide +kernel
theorem dX12_hits_11 : decode cX12_hits 11 = .ok (.aload_n 0, 1) := by decide +kernel
theorem dX12_hits_12 : decode cX12_hits 12 = .ok (.getfield 88, 3) := by decide +kernel
theorem dX12_hits_15 : decode cX12_hits 15 = .ok (.iload_n 1, 1) := by decide +kernel
theorem dX12_hits_16 : decode cX12_hits 16 = .ok (.iaload, 1) := by decide +kernel
theorem dX12_hits_17 : decode cX12_hits 17 = .ok (.invokevirtual 322, 3) := by decide +kernel
theorem dX12_hits_20 : decode cX12_hits 20 = .ok (.iconst 0, 1) := by decide +kernel
theorem dX12_hits_21 : decode cX12_hits 21 = .ok (.istore_n 2, 1) := by decide +kernel
theorem dX12_hits_22 : decode cX12_hits 22 = .ok (.iload_n 2, 1) := by decide +kernel
theorem dX12_hits_23 : decode cX12_hits 23 = .ok (.aload_n 0, 1) := by decide +kernel
theorem dX12_hits_24 : decode cX12_hits 24 = .ok (.getfield 325, 3) := by decide +kernel
theorem dX12_hits_27 : decode cX12_hits 27 = .ok (.if_icmp .ge 45, 3) := by decide +kernel
theorem dX12_hits_30 : decode cX12_hits 30 = .ok (.aload_n 0, 1) := by decide +kernel
theorem dX12_hits_31 : decode cX12_hits 31 = .ok (.getfield 190, 3) := by decide +kernel
theorem dX12_hits_34 : decode cX12_hits 34 = .ok (.iload_n 2, 1) := by decide +kernel
theorem dX12_hits_35 : decode cX12_hits 35 = .ok (.aload_n 0, 1) := by decide +kernel
theorem dX12_hits_36 : decode cX12_hits 36 = .ok (.getfield 97, 3) := by decide +kernel
theorem dX12_hits_39 : decode cX12_hits 39 = .ok (.iload_n 2, 1) := by decide +kernel
theorem dX12_hits_40 : decode cX12_hits 40 = .ok (.iaload, 1) := by decide +kernel
theorem dX12_hits_41 : decode cX12_hits 41 = .ok (.iload_n 1, 1) := by decide +kernel
theorem dX12_hits_42 : decode cX12_hits 42 = .ok (.if_icmp .ne 17, 3) := by decide +kernel
theorem dX12_hits_45 : decode cX12_hits 45 = .ok (.aload_n 0, 1) := by decide +kernel
theorem dX12_hits_46 : decode cX12_hits 46 = .ok (.getfield 187, 3) := by decide +kernel
theorem dX12_hits_49 : decode cX12_hits 49 = .ok (.aload_n 0, 1) := by decide +kernel
theorem dX12_hits_50 : decode cX12_hits 50 = .ok (.getfield 100, 3) := by decide +kernel
theorem dX12_hits_53 : decode cX12_hits 53 = .ok (.iload_n 2, 1) := by decide +kernel
theorem dX12_hits_54 : decode cX12_hits 54 = .ok (.iaload, 1) := by decide +kernel
theorem dX12_hits_55 : decode cX12_hits 55 = .ok (.iaload, 1) := by decide +kernel
theorem dX12_hits_56 : decode cX12_hits 56 = .ok (.goto 9, 3) := by decide +kernel
theorem dX12_hits_59 : decode cX12_hits 59 = .ok (.aload_n 0, 1) := by decide +kernel
theorem dX12_hits_60 : decode cX12_hits 60 = .ok (.getfield 190, 3) := by decide +kernel
theorem dX12_hits_63 : decode cX12_hits 63 = .ok (.iload_n 2, 1) := by decide +kernel
theorem dX12_hits_64 : decode cX12_hits 64 = .ok (.iaload, 1) := by decide +kernel
theorem dX12_hits_65 : decode cX12_hits 65 = .ok (.iastore, 1) := by decide +kernel
theorem dX12_hits_66 : decode cX12_hits 66 = .ok (.iinc 2 1, 3) := by decide +kernel
theorem dX12_hits_69 : decode cX12_hits 69 = .ok (.goto (-47), 3) := by decide +kernel
theorem dX12_hits_72 : decode cX12_hits 72 = .ok (.iinc 1 1, 3) := by decide +kernel
theorem dX12_hits_75 : decode cX12_hits 75 = .ok (.goto (-73), 3) := by decide +kernel
theorem dX12_hits_78 : decode cX12_hits 78 = .ok (.return_, 1) := by decide +kernel
theorem dX12_bits_0 : decode cX12_bits 0 = .ok (.aload_n 0, 1) := by decide +kernel
theorem dX12_bits_1 : decode cX12_bits 1 = .ok (.getfield 58, 3) := by decide +kernel
theorem dX12_bits_4 : decode cX12_bits 4 = .ok (.iload_n 1, 1) := by decide +kernel
theorem dX12_bits_5 : decode cX12_bits 5 = .ok (.iaload, 1) := by decide +kernel
theorem dX12_bits_6 : decode cX12_bits 6 = .ok (.iconst 1, 1) := by decide +kernel
theorem dX12_bits_7 : decode cX12_bits 7 = .ok (.if_icmp .ne 14, 3) := by decide +kernel
theorem dX12_bits_10 : decode cX12_bits 10 = .ok (.iconst 1, 1) := by decide +kernel
theorem dX12_bits_11 : decode cX12_bits 11 = .ok (.aload_n 0, 1) := by decide +kernel
theorem dX12_bits_12 : decode cX12_bits 12 = .ok (.getfield 61, 3) := by decide +kernel
theorem dX12_bits_15 : decode cX12_bits 15 = .ok (.iload_n 1, 1) := by decide +kernel
theorem dX12_bits_16 : decode cX12_bits 16 = .ok (.iaload, 1) := by decide +kernel
theorem dX12_bits_17 : decode cX12_bits 17 = .ok (.ishl, 1) := by decide +kernel
theorem dX12_bits_18 : decode cX12_bits 18 = .ok (.goto 66, 3) := by decide +kernel
theorem dX12_bits_21 : decode cX12_bits 21 = .ok (.aload_n 0, 1) := by decide +kernel
theorem dX12_bits_22 : decode cX12_bits 22 = .ok (.getfield 58, 3) := by decide +kernel
theorem dX12_bits_25 : decode cX12_bits 25 = .ok (.iload_n 1, 1) := by decide +kernel
theorem dX12_bits_26 : decode cX12_bits 26 = .ok (.iaload, 1) := by decide +kernel
theorem dX12_bits_27 : decode cX12_bits 27 = .ok (.iconst 2, 1) := by decide +kernel
theorem dX12_bits_28 : decode cX12_bits 28 = .ok (.if_icmp .ne 16, 3) := by decide +kernel
theorem dX12_bits_31 : decode cX12_bits 31 = .ok (.sipush 256, 3) := by decide +kernel
theorem dX12_bits_34 : decode cX12_bits 34 = .ok (.aload_n 0, 1) := by decide +kernel
theorem dX12_bits_35 : decode cX12_bits 35 = .ok (.getfield 61, 3) := by decide +kernel
theorem dX12_bits_38 : decode cX12_bits 38 = .ok (.iload_n 1, 1) := by decide +kernel
theorem dX12_bits_39 : decode cX12_bits 39 = .ok (.iaload, 1) := by decide +kernel
theorem dX12_bits_40 : decode cX12_bits 40 = .ok (.ishl, 1) := by decide +kernel
theorem dX12_bits_41 : decode cX12_bits 41 = .ok (.goto 43, 3) := by decide +kernel
theorem dX12_bits_44 : decode cX12_bits 44 = .ok (.aload_n 0, 1) := by decide +kernel
theorem dX12_bits_45 : decode cX12_bits 45 = .ok (.getfield 58, 3) := by decide +kernel
theorem dX12_bits_48 : decode cX12_bits 48 = .ok (.iload_n 1, 1) := by decide +kernel
theorem dX12_bits_49 : decode cX12_bits 49 = .ok (.iaload, 1) := by decide +kernel
theorem dX12_bits_50 : decode cX12_bits 50 = .ok (.iconst 3, 1) := by decide +kernel
theorem dX12_bits_51 : decode cX12_bits 51 = .ok (.if_icmp .ne 16, 3) := by decide +kernel
theorem dX12_bits_54 : decode cX12_bits 54 = .ok (.sipush 4096, 3) := by decide +kernel
theorem dX12_bits_57 : decode cX12_bits 57 = .ok (.aload_n 0, 1) := by decide +kernel
theorem dX12_bits_58 : decode cX12_bits 58 = .ok (.getfield 61, 3) := by decide +kernel
theorem dX12_bits_61 : decode cX12_bits 61 = .ok (.iload_n 1, 1) := by decide +kernel
theorem dX12_bits_62 : decode cX12_bits 62 = .ok (.iaload, 1) := by decide +kernel
theorem dX12_bits_63 : decode cX12_bits 63 = .ok (.ishl, 1) := by decide +kernel
theorem dX12_bits_64 : decode cX12_bits 64 = .ok (.goto 20, 3) := by decide +kernel
theorem dX12_bits_67 : decode cX12_bits 67 = .ok (.aload_n 0, 1) := by decide +kernel
theorem dX12_bits_68 : decode cX12_bits 68 = .ok (.getfield 58, 3) := by decide +kernel
theorem dX12_bits_71 : decode cX12_bits 71 = .ok (.iload_n 1, 1) := by decide +kernel
theorem dX12_bits_72 : decode cX12_bits 72 = .ok (.iaload, 1) := by decide +kernel
theorem dX12_bits_73 : decode cX12_bits 73 = .ok (.iconst 4, 1) := by decide +kernel
theorem dX12_bits_74 : decode cX12_bits 74 = .ok (.if_icmp .ne 9, 3) := by decide +kernel
theorem dX12_bits_77 : decode cX12_bits 77 = .ok (.sipush 16384, 3) := by decide +kernel
theorem dX12_bits_80 : decode cX12_bits 80 = .ok (.goto 4, 3) := by decide +kernel
theorem dX12_bits_83 : decode cX12_bits 83 = .ok (.iconst 0, 1) := by decide +kernel
theorem dX12_bits_84 : decode cX12_bits 84 = .ok (.ireturn, 1) := by decide +kernel
theorem dX12_study_0 : decode cX12_study 0 = .ok (.iconst 0, 1) := by decide +kernel
theorem dX12_study_1 : decode cX12_study 1 = .ok (.istore_n 2, 1) := by decide +kernel
theorem dX12_study_2 : decode cX12_study 2 = .ok (.iconst 0, 1) := by decide +kernel
theorem dX12_study_3 : decode cX12_study 3 = .ok (.istore_n 3, 1) := by decide +kernel
theorem dX12_study_4 : decode cX12_study 4 = .ok (.iconst 0, 1) := by decide +kernel
theorem dX12_study_5 : decode cX12_study 5 = .ok (.istore 4, 2) := by decide +kernel
theorem dX12_study_7 : decode cX12_study 7 = .ok (.iconst 0, 1) := by decide +kernel
theorem dX12_study_8 : decode cX12_study 8 = .ok (.istore 5, 2) := by decide +kernel
theorem dX12_study_10 : decode cX12_study 10 = .ok (.iload 5, 2) := by decide +kernel
theorem dX12_study_12 : decode cX12_study 12 = .ok (.aload_n 0, 1) := by decide +kernel
theorem dX12_study_13 : decode cX12_study 13 = .ok (.getfield 49, 3) := by decide +kernel
theorem dX12_study_16 : decode cX12_study 16 = .ok (.iload_n 1, 1) := by decide +kernel
theorem dX12_study_17 : decode cX12_study 17 = .ok (.iaload, 1) := by decide +kernel
theorem dX12_study_18 : decode cX12_study 18 = .ok (.if_icmp .ge 349, 3) := by decide +kernel
theorem dX12_study_21 : decode cX12_study 21 = .ok (.iload 5, 2) := by decide +kernel
theorem dX12_study_23 : decode cX12_study 23 = .ok (.aload_n 0, 1) := by decide +kernel
theorem dX12_study_24 : decode cX12_study 24 = .ok (.getfield 49, 3) := by decide +kernel
theorem dX12_study_27 : decode cX12_study 27 = .ok (.iload_n 1, 1) := by decide +kernel
theorem dX12_study_28 : decode cX12_study 28 = .ok (.iaload, 1) := by decide +kernel
theorem dX12_study_29 : decode cX12_study 29 = .ok (.iconst 1, 1) := by decide +kernel
theorem dX12_study_30 : decode cX12_study 30 = .ok (.isub, 1) := by decide +kernel
theorem dX12_study_31 : decode cX12_study 31 = .ok (.if_icmp .ne 7, 3) := by decide +kernel
theorem dX12_study_34 : decode cX12_study 34 = .ok (.iconst 1, 1) := by decide +kernel
theorem dX12_study_35 : decode cX12_study 35 = .ok (.goto 4, 3) := by decide +kernel
theorem dX12_study_38 : decode cX12_study 38 = .ok (.iconst 0, 1) := by decide +kernel
theorem dX12_study_39 : decode cX12_study 39 = .ok (.istore 6, 2) := by decide +kernel
theorem dX12_study_41 : decode cX12_study 41 = .ok (.iload 4, 2) := by decide +kernel
theorem dX12_study_43 : decode cX12_study 43 = .ok (.iload 5, 2) := by decide +kernel
theorem dX12_study_45 : decode cX12_study 45 = .ok (.ifCond .le 24, 3) := by decide +kernel
theorem dX12_study_48 : decode cX12_study 48 = .ok (.aload_n 0, 1) := by decide +kernel
theorem dX12_study_49 : decode cX12_study 49 = .ok (.getfield 52, 3) := by decide +kernel
theorem dX12_study_52 : decode cX12_study 52 = .ok (.iconst 4, 1) := by decide +kernel
theorem dX12_study_53 : decode cX12_study 53 = .ok (.iload_n 1, 1) := by decide +kernel
theorem dX12_study_54 : decode cX12_study 54 = .ok (.imul, 1) := by decide +kernel
theorem dX12_study_55 : decode cX12_study 55 = .ok (.iload 5, 2) := by decide +kernel
theorem dX12_study_57 : decode cX12_study 57 = .ok (.iadd, 1) := by decide +kernel
theorem dX12_study_58 : decode cX12_study 58 = .ok (.iaload, 1) := by decide +kernel
theorem dX12_study_59 : decode cX12_study 59 = .ok (.iconst 1, 1) := by decide +kernel
theorem dX12_study_60 : decode cX12_study 60 = .ok (.if_icmp .le 9, 3) := by decide +kernel
theorem dX12_study_63 : decode cX12_study 63 = .ok (.sipush 16384, 3) := by decide +kernel
theorem dX12_study_66 : decode cX12_study 66 = .ok (.goto 4, 3) := by decide +kernel
theorem dX12_study_69 : decode cX12_study 69 = .ok (.iconst 0, 1) := by decide +kernel
theorem dX12_study_70 : decode cX12_study 70 = .ok (.ior, 1) := by decide +kernel
theorem dX12_study_71 : decode cX12_study 71 = .ok (.istore 4, 2) := by decide +kernel
theorem dX12_study_73 : decode cX12_study 73 = .ok (.iconst 0, 1) := by decide +kernel
theorem dX12_study_74 : decode cX12_study 74 = .ok (.istore 7, 2) := by decide +kernel
theorem dX12_study_76 : decode cX12_study 76 = .ok (.iload 7, 2) := by decide +kernel
theorem dX12_study_78 : decode cX12_study 78 = .ok (.aload_n 0, 1) := by decide +kernel
theorem dX12_study_79 : decode cX12_study 79 = .ok (.getfield 55, 3) := by decide +kernel
theorem dX12_study_82 : decode cX12_study 82 = .ok (.iconst 4, 1) := by decide +kernel
theorem dX12_study_83 : decode cX12_study 83 = .ok (.iload_n 1, 1) := by decide +kernel
theorem dX12_study_84 : decode cX12_study 84 = .ok (.imul, 1) := by decide +kernel
theorem dX12_study_85 : decode cX12_study 85 = .ok (.iload 5, 2) := by decide +kernel
theorem dX12_study_87 : decode cX12_study 87 = .ok (.iadd, 1) := by decide +kernel
theorem dX12_study_88 : decode cX12_study 88 = .ok (.iaload, 1) := by decide +kernel
theorem dX12_study_89 : decode cX12_study 89 = .ok (.if_icmp .ge 272, 3) := by decide +kernel
theorem dX12_study_92 : decode cX12_study 92 = .ok (.bipush 16, 2) := by decide +kernel
theorem dX12_study_94 : decode cX12_study 94 = .ok (.iload_n 1, 1) := by decide +kernel
theorem dX12_study_95 : decode cX12_study 95 = .ok (.imul, 1) := by decide +kernel
theorem dX12_study_96 : decode cX12_study 96 = .ok (.iconst 4, 1) := by decide +kernel
theorem dX12_study_97 : decode cX12_study 97 = .ok (.iload 5, 2) := by decide +kernel
theorem dX12_study_99 : decode cX12_study 99 = .ok (.imul, 1) := by decide +kernel
theorem dX12_study_100 : decode cX12_study 100 = .ok (.iadd, 1) := by decide +kernel
theorem dX12_study_101 : decode cX12_study 101 = .ok (.iload 7, 2) := by decide +kernel
theorem dX12_study_103 : decode cX12_study 103 = .ok (.iadd, 1) := by decide +kernel
theorem dX12_study_104 : decode cX12_study 104 = .ok (.istore 8, 2) := by decide +kernel
theorem dX12_study_106 : decode cX12_study 106 = .ok (.aload_n 0, 1) := by decide +kernel
theorem dX12_study_107 : decode cX12_study 107 = .ok (.iload 8, 2) := by decide +kernel
theorem dX12_study_109 : decode cX12_study 109 = .ok (.invokevirtual 328, 3) := by decide +kernel
theorem dX12_study_112 : decode cX12_study 112 = .ok (.istore 9, 2) := by decide +kernel
theorem dX12_study_114 : decode cX12_study 114 = .ok (.aload_n 0, 1) := by decide +kernel
theorem dX12_study_115 : decode cX12_study 115 = .ok (.getfield 58, 3) := by decide +kernel
theorem dX12_study_118 : decode cX12_study 118 = .ok (.iload 8, 2) := by decide +kernel
theorem dX12_study_120 : decode cX12_study 120 = .ok (.iaload, 1) := by decide +kernel
theorem dX12_study_121 : decode cX12_study 121 = .ok (.iconst 5, 1) := by decide +kernel
theorem dX12_study_122 : decode cX12_study 122 = .ok (.if_icmp .eq 15, 3) := by decide +kernel
theorem dX12_study_125 : decode cX12_study 125 = .ok (.aload_n 0, 1) := by decide +kernel
theorem dX12_study_126 : decode cX12_study 126 = .ok (.getfield 58, 3) := by decide +kernel
theorem dX12_study_129 : decode cX12_study 129 = .ok (.iload 8, 2) := by decide +kernel
theorem dX12_study_131 : decode cX12_study 131 = .ok (.iaload, 1) := by decide +kernel
theorem dX12_study_132 : decode cX12_study 132 = .ok (.bipush 6, 2) := by decide +kernel
theorem dX12_study_134 : decode cX12_study 134 = .ok (.if_icmp .ne 7, 3) := by decide +kernel
theorem dX12_study_137 : decode cX12_study 137 = .ok (.iconst 1, 1) := by decide +kernel
theorem dX12_study_138 : decode cX12_study 138 = .ok (.goto 4, 3) := by decide +kernel
theorem dX12_study_141 : decode cX12_study 141 = .ok (.iconst 0, 1) := by decide +kernel
theorem dX12_study_142 : decode cX12_study 142 = .ok (.istore 10, 2) := by decide +kernel
theorem dX12_study_144 : decode cX12_study 144 = .ok (.iload 10, 2) := by decide +kernel
theorem dX12_study_146 : decode cX12_study 146 = .ok (.ifCond .eq 13, 3) := by decide +kernel
theorem dX12_study_149 : decode cX12_study 149 = .ok (.aload_n 0, 1) := by decide +kernel
theorem dX12_study_150 : decode cX12_study 150 = .ok (.getfield 61, 3) := by decide +kernel
theorem dX12_study_153 : decode cX12_study 153 = .ok (.iload 8, 2) := by decide +kernel
theorem dX12_study_155 : decode cX12_study 155 = .ok (.iaload, 1) := by decide +kernel
theorem dX12_study_156 : decode cX12_study 156 = .ok (.goto 26, 3) := by decide +kernel
theorem dX12_study_159 : decode cX12_study 159 = .ok (.aload_n 0, 1) := by decide +kernel
theorem dX12_study_160 : decode cX12_study 160 = .ok (.getfield 58, 3) := by decide +kernel
theorem dX12_study_163 : decode cX12_study 163 = .ok (.iload 8, 2) := by decide +kernel
theorem dX12_study_165 : decode cX12_study 165 = .ok (.iaload, 1) := by decide +kernel
theorem dX12_study_166 : decode cX12_study 166 = .ok (.bipush 7, 2) := by decide +kernel
theorem dX12_study_168 : decode cX12_study 168 = .ok (.if_icmp .ne 13, 3) := by decide +kernel
theorem dX12_study_171 : decode cX12_study 171 = .ok (.aload_n 0, 1) := by decide +kernel
theorem dX12_study_172 : decode cX12_study 172 = .ok (.getfield 64, 3) := by decide +kernel
theorem dX12_study_175 : decode cX12_study 175 = .ok (.iload 8, 2) := by decide +kernel
theorem dX12_study_177 : decode cX12_study 177 = .ok (.iaload, 1) := by decide +kernel
theorem dX12_study_178 : decode cX12_study 178 = .ok (.goto 4, 3) := by decide +kernel
theorem dX12_study_181 : decode cX12_study 181 = .ok (.iconst (-1), 1) := by decide +kernel
theorem dX12_study_182 : decode cX12_study 182 = .ok (.istore 11, 2) := by decide +kernel
theorem dX12_study_184 : decode cX12_study 184 = .ok (.iload 11, 2) := by decide +kernel
theorem dX12_study_186 : decode cX12_study 186 = .ok (.ifCond .ge 7, 3) := by decide +kernel
theorem dX12_study_189 : decode cX12_study 189 = .ok (.iconst 0, 1) := by decide +kernel
theorem dX12_study_190 : decode cX12_study 190 = .ok (.goto 10, 3) := by decide +kernel
theorem dX12_study_193 : decode cX12_study 193 = .ok (.aload_n 0, 1) := by decide +kernel
theorem dX12_study_194 : decode cX12_study 194 = .ok (.getfield 82, 3) := by decide +kernel
theorem dX12_study_197 : decode cX12_study 197 = .ok (.iload 11, 2) := by decide +kernel
theorem dX12_study_199 : decode cX12_study 199 = .ok (.iaload, 1) := by decide +kernel
theorem dX12_study_200 : decode cX12_study 200 = .ok (.istore 12, 2) := by decide +kernel
theorem dX12_study_202 : decode cX12_study 202 = .ok (.iload 6, 2) := by decide +kernel
theorem dX12_study_204 : decode cX12_study 204 = .ok (.ifCond .eq 32, 3) := by decide +kernel
theorem dX12_study_207 : decode cX12_study 207 = .ok (.iload 10, 2) := by decide +kernel
theorem dX12_study_209 : decode cX12_study 209 = .ok (.ifCond .eq 27, 3) := by decide +kernel
theorem dX12_study_212 : decode cX12_study 212 = .ok (.aload_n 0, 1) := by decide +kernel
theorem dX12_study_213 : decode cX12_study 213 = .ok (.getfield 49, 3) := by decide +kernel
theorem dX12_study_216 : decode cX12_study 216 = .ok (.iload 11, 2) := by decide +kernel
theorem dX12_study_218 : decode cX12_study 218 = .ok (.ifCond .ge 7, 3) := by decide +kernel
theorem dX12_study_221 : decode cX12_study 221 = .ok (.iconst 0, 1) := by decide +kernel
theorem dX12_study_222 : decode cX12_study 222 = .ok (.goto 5, 3) := by decide +kernel
theorem dX12_study_225 : decode cX12_study 225 = .ok (.iload 11, 2) := by decide +kernel
theorem dX12_study_227 : decode cX12_study 227 = .ok (.iaload, 1) := by decide +kernel
theorem dX12_study_228 : decode cX12_study 228 = .ok (.iconst 1, 1) := by decide +kernel
theorem dX12_study_229 : decode cX12_study 229 = .ok (.if_icmp .ne 7, 3) := by decide +kernel
theorem dX12_study_232 : decode cX12_study 232 = .ok (.iconst 1, 1) := by decide +kernel
theorem dX12_study_233 : decode cX12_study 233 = .ok (.goto 4, 3) := by decide +kernel
theorem dX12_study_236 : decode cX12_study 236 = .ok (.iconst 0, 1) := by decide +kernel
theorem dX12_study_237 : decode cX12_study 237 = .ok (.istore 13, 2) := by decide +kernel
theorem dX12_study_239 : decode cX12_study 239 = .ok (.iload_n 2, 1) := by decide +kernel
theorem dX12_study_240 : decode cX12_study 240 = .ok (.iload 6, 2) := by decide +kernel
theorem dX12_study_242 : decode cX12_study 242 = .ok (.ifCond .eq 8, 3) := by decide +kernel
theorem dX12_study_245 : decode cX12_study 245 = .ok (.iload 9, 2) := by decide +kernel
theorem dX12_study_247 : decode cX12_study 247 = .ok (.goto 4, 3) := by decide +kernel
theorem dX12_study_250 : decode cX12_study 250 = .ok (.iconst 0, 1) := by decide +kernel
theorem dX12_study_251 : decode cX12_study 251 = .ok (.ior, 1) := by decide +kernel
theorem dX12_study_252 : decode cX12_study 252 = .ok (.istore_n 2, 1) := by decide +kernel
theorem dX12_study_253 : decode cX12_study 253 = .ok (.iload_n 2, 1) := by decide +kernel
theorem dX12_study_254 : decode cX12_study 254 = .ok (.iload 13, 2) := by decide +kernel
theorem dX12_study_256 : decode cX12_study 256 = .ok (.ifCond .eq 13, 3) := by decide +kernel
theorem dX12_study_259 : decode cX12_study 259 = .ok (.aload_n 0, 1) := by decide +kernel
theorem dX12_study_260 : decode cX12_study 260 = .ok (.getfield 76, 3) := by decide +kernel
theorem dX12_study_263 : decode cX12_study 263 = .ok (.iload 11, 2) := by decide +kernel
theorem dX12_study_265 : decode cX12_study 265 = .ok (.iaload, 1) := by decide +kernel
theorem dX12_study_266 : decode cX12_study 266 = .ok (.goto 4, 3) := by decide +kernel
theorem dX12_study_269 : decode cX12_study 269 = .ok (.iconst 0, 1) := by decide +kernel
theorem dX12_study_270 : decode cX12_study 270 = .ok (.ior, 1) := by decide +kernel
theorem dX12_study_271 : decode cX12_study 271 = .ok (.istore_n 2, 1) := by decide +kernel
theorem dX12_study_272 : decode cX12_study 272 = .ok (.iload_n 3, 1) := by decide +kernel
theorem dX12_study_273 : decode cX12_study 273 = .ok (.iload 6, 2) := by decide +kernel
theorem dX12_study_275 : decode cX12_study 275 = .ok (.ifCond .eq 7, 3) := by decide +kernel
theorem dX12_study_278 : decode cX12_study 278 = .ok (.iconst 0, 1) := by decide +kernel
theorem dX12_study_279 : decode cX12_study 279 = .ok (.goto 5, 3) := by decide +kernel
theorem dX12_study_282 : decode cX12_study 282 = .ok (.iload 9, 2) := by decide +kernel
theorem dX12_study_284 : decode cX12_study 284 = .ok (.ior, 1) := by decide +kernel
theorem dX12_study_285 : decode cX12_study 285 = .ok (.istore_n 3, 1) := by decide +kernel
theorem dX12_study_286 : decode cX12_study 286 = .ok (.iload_n 3, 1) := by decide +kernel
theorem dX12_study_287 : decode cX12_study 287 = .ok (.iload 13, 2) := by decide +kernel
theorem dX12_study_289 : decode cX12_study 289 = .ok (.ifCond .eq 13, 3) := by decide +kernel
theorem dX12_study_292 : decode cX12_study 292 = .ok (.aload_n 0, 1) := by decide +kernel
theorem dX12_study_293 : decode cX12_study 293 = .ok (.getfield 79, 3) := by decide +kernel
theorem dX12_study_296 : decode cX12_study 296 = .ok (.iload 11, 2) := by decide +kernel
theorem dX12_study_298 : decode cX12_study 298 = .ok (.iaload, 1) := by decide +kernel
theorem dX12_study_299 : decode cX12_study 299 = .ok (.goto 5, 3) := by decide +kernel
theorem dX12_study_302 : decode cX12_study 302 = .ok (.iload 12, 2) := by decide +kernel
theorem dX12_study_304 : decode cX12_study 304 = .ok (.ior, 1) := by decide +kernel
theorem dX12_study_305 : decode cX12_study 305 = .ok (.istore_n 3, 1) := by decide +kernel
theorem dX12_study_306 : decode cX12_study 306 = .ok (.iload 4, 2) := by decide +kernel
theorem dX12_study_308 : decode cX12_study 308 = .ok (.iload 9, 2) := by decide +kernel
theorem dX12_study_310 : decode cX12_study 310 = .ok (.iload 12, 2) := by decide +kernel
theorem dX12_study_312 : decode cX12_study 312 = .ok (.ior, 1) := by decide +kernel
theorem dX12_study_313 : decode cX12_study 313 = .ok (.aload_n 0, 1) := by decide +kernel
theorem dX12_study_314 : decode cX12_study 314 = .ok (.getfield 58, 3) := by decide +kernel
theorem dX12_study_317 : decode cX12_study 317 = .ok (.iload 8, 2) := by decide +kernel
theorem dX12_study_319 : decode cX12_study 319 = .ok (.iaload, 1) := by decide +kernel
theorem dX12_study_320 : decode cX12_study 320 = .ok (.bipush 7, 2) := by decide +kernel
theorem dX12_study_322 : decode cX12_study 322 = .ok (.if_icmp .ne 28, 3) := by decide +kernel
theorem dX12_study_325 : decode cX12_study 325 = .ok (.ldc_w 331, 3) := by decide +kernel
theorem dX12_study_328 : decode cX12_study 328 = .ok (.aload_n 0, 1) := by decide +kernel
theorem dX12_study_329 : decode cX12_study 329 = .ok (.getfield 61, 3) := by decide +kernel
theorem dX12_study_332 : decode cX12_study 332 = .ok (.iload 8, 2) := by decide +kernel
theorem dX12_study_334 : decode cX12_study 334 = .ok (.iaload, 1) := by decide +kernel
theorem dX12_study_335 : decode cX12_study 335 = .ok (.iconst 1, 1) := by decide +kernel
theorem dX12_study_336 : decode cX12_study 336 = .ok (.if_icmp .le 9, 3) := by decide +kernel
theorem dX12_study_339 : decode cX12_study 339 = .ok (.sipush 16384, 3) := by decide +kernel
theorem dX12_study_342 : decode cX12_study 342 = .ok (.goto 4, 3) := by decide +kernel
theorem dX12_study_345 : decode cX12_study 345 = .ok (.iconst 0, 1) := by decide +kernel
theorem dX12_study_346 : decode cX12_study 346 = .ok (.ior, 1) := by decide +kernel
theorem dX12_study_347 : decode cX12_study 347 = .ok (.goto 4, 3) := by decide +kernel
theorem dX12_study_350 : decode cX12_study 350 = .ok (.iconst 0, 1) := by decide +kernel
theorem dX12_study_351 : decode cX12_study 351 = .ok (.ior, 1) := by decide +kernel
theorem dX12_study_352 : decode cX12_study 352 = .ok (.ior, 1) := by decide +kernel
theorem dX12_study_353 : decode cX12_study 353 = .ok (.istore 4, 2) := by decide +kernel
theorem dX12_study_355 : decode cX12_study 355 = .ok (.iinc 7 1, 3) := by decide +kernel
theorem dX12_study_358 : decode cX12_study 358 = .ok (.goto (-282), 3) := by decide +kernel
theorem dX12_study_361 : decode cX12_study 361 = .ok (.iinc 5 1, 3) := by decide +kernel
theorem dX12_study_364 : decode cX12_study 364 = .ok (.goto (-354), 3) := by decide +kernel
theorem dX12_study_367 : decode cX12_study 367 = .ok (.aload_n 0, 1) := by decide +kernel
theorem dX12_study_368 : decode cX12_study 368 = .ok (.getfield 76, 3) := by decide +kernel
theorem dX12_study_371 : decode cX12_study 371 = .ok (.iload_n 1, 1) := by decide +kernel
theorem dX12_study_372 : decode cX12_study 372 = .ok (.iload_n 2, 1) := by decide +kernel
theorem dX12_study_373 : decode cX12_study 373 = .ok (.iastore, 1) := by decide +kernel
theorem dX12_study_374 : decode cX12_study 374 = .ok (.aload_n 0, 1) := by decide +kernel
theorem dX12_study_375 : decode cX12_study 375 = .ok (.getfield 82, 3) := by decide +kernel
theorem dX12_study_378 : decode cX12_study 378 = .ok (.iload_n 1, 1) := by decide +kernel
theorem dX12_study_379 : decode cX12_study 379 = .ok (.iload 4, 2) := by decide +kernel
theorem dX12_study_381 : decode cX12_study 381 = .ok (.iastore, 1) := by decide +kernel
theorem dX12_study_382 : decode cX12_study 382 = .ok (.aload_n 0, 1) := by decide +kernel
theorem dX12_study_383 : decode cX12_study 383 = .ok (.getfield 79, 3) := by decide +kernel
theorem dX12_study_386 : decode cX12_study 386 = .ok (.iload_n 1, 1) := by decide +kernel
theorem dX12_study_387 : decode cX12_study 387 = .ok (.aload_n 0, 1) := by decide +kernel
theorem dX12_study_388 : decode cX12_study 388 = .ok (.getfield 73, 3) := by decide +kernel
theorem dX12_study_391 : decode cX12_study 391 = .ok (.iload_n 1, 1) := by decide +kernel
theorem dX12_study_392 : decode cX12_study 392 = .ok (.iaload, 1) := by decide +kernel
theorem dX12_study_393 : decode cX12_study 393 = .ok (.iconst 1, 1) := by decide +kernel
theorem dX12_study_394 : decode cX12_study 394 = .ok (.if_icmp .eq 12, 3) := by decide +kernel
theorem dX12_study_397 : decode cX12_study 397 = .ok (.aload_n 0, 1) := by decide +kernel
theorem dX12_study_398 : decode cX12_study 398 = .ok (.getfield 70, 3) := by decide +kernel
theorem dX12_study_401 : decode cX12_study 401 = .ok (.iload_n 1, 1) := by decide +kernel
theorem dX12_study_402 : decode cX12_study 402 = .ok (.iaload, 1) := by decide +kernel
theorem dX12_study_403 : decode cX12_study 403 = .ok (.ifCond .lt 8, 3) := by decide +kernel
theorem dX12_study_406 : decode cX12_study 406 = .ok (.iload 4, 2) := by decide +kernel
theorem dX12_study_408 : decode cX12_study 408 = .ok (.goto 4, 3) := by decide +kernel
theorem dX12_study_411 : decode cX12_study 411 = .ok (.iload_n 3, 1) := by decide +kernel
theorem dX12_study_412 : decode cX12_study 412 = .ok (.iastore, 1) := by decide +kernel
theorem dX12_study_413 : decode cX12_study 413 = .ok (.return_, 1) := by decide +kernel
theorem dX12_weigh_0 : decode cX12_weigh 0 = .ok (.aload_n 0, 1) := by decide +kernel
theorem dX12_weigh_1 : decode cX12_weigh 1 = .ok (.getfield 58, 3) := by decide +kernel
theorem dX12_weigh_4 : decode cX12_weigh 4 = .ok (.iload_n 1, 1) := by decide +kernel
theorem dX12_weigh_5 : decode cX12_weigh 5 = .ok (.iaload, 1) := by decide +kernel
theorem dX12_weigh_6 : decode cX12_weigh 6 = .ok (.istore_n 2, 1) := by decide +kernel
theorem dX12_weigh_7 : decode cX12_weigh 7 = .ok (.iload_n 2, 1) := by decide +kernel
theorem dX12_weigh_8 : decode cX12_weigh 8 = .ok (.ifCond .eq 9, 3) := by decide +kernel
theorem dX12_weigh_11 : decode cX12_weigh 11 = .ok (.iload_n 2, 1) := by decide +kernel
theorem dX12_weigh_12 : decode cX12_weigh 12 = .ok (.bipush 9, 2) := by decide +kernel
theorem dX12_weigh_14 : decode cX12_weigh 14 = .ok (.if_icmp .ne 7, 3) := by decide +kernel
theorem dX12_weigh_17 : decode cX12_weigh 17 = .ok (.iconst 1, 1) := by decide +kernel
theorem dX12_weigh_18 : decode cX12_weigh 18 = .ok (.goto 50, 3) := by decide +kernel
theorem dX12_weigh_21 : decode cX12_weigh 21 = .ok (.iload_n 2, 1) := by decide +kernel
theorem dX12_weigh_22 : decode cX12_weigh 22 = .ok (.iconst 5, 1) := by decide +kernel
theorem dX12_weigh_23 : decode cX12_weigh 23 = .ok (.if_icmp .eq 9, 3) := by decide +kernel
theorem dX12_weigh_26 : decode cX12_weigh 26 = .ok (.iload_n 2, 1) := by decide +kernel
theorem dX12_weigh_27 : decode cX12_weigh 27 = .ok (.bipush 6, 2) := by decide +kernel
theorem dX12_weigh_29 : decode cX12_weigh 29 = .ok (.if_icmp .ne 17, 3) := by decide +kernel
theorem dX12_weigh_32 : decode cX12_weigh 32 = .ok (.aload_n 0, 1) := by decide +kernel
theorem dX12_weigh_33 : decode cX12_weigh 33 = .ok (.getfield 67, 3) := by decide +kernel
theorem dX12_weigh_36 : decode cX12_weigh 36 = .ok (.aload_n 0, 1) := by decide +kernel
theorem dX12_weigh_37 : decode cX12_weigh 37 = .ok (.getfield 61, 3) := by decide +kernel
theorem dX12_weigh_40 : decode cX12_weigh 40 = .ok (.iload_n 1, 1) := by decide +kernel
theorem dX12_weigh_41 : decode cX12_weigh 41 = .ok (.iaload, 1) := by decide +kernel
theorem dX12_weigh_42 : decode cX12_weigh 42 = .ok (.iaload, 1) := by decide +kernel
theorem dX12_weigh_43 : decode cX12_weigh 43 = .ok (.goto 25, 3) := by decide +kernel
theorem dX12_weigh_46 : decode cX12_weigh 46 = .ok (.iload_n 2, 1) := by decide +kernel
theorem dX12_weigh_47 : decode cX12_weigh 47 = .ok (.bipush 7, 2) := by decide +kernel
theorem dX12_weigh_49 : decode cX12_weigh 49 = .ok (.if_icmp .ne 17, 3) := by decide +kernel
theorem dX12_weigh_52 : decode cX12_weigh 52 = .ok (.aload_n 0, 1) := by decide +kernel
theorem dX12_weigh_53 : decode cX12_weigh 53 = .ok (.getfield 67, 3) := by decide +kernel
theorem dX12_weigh_56 : decode cX12_weigh 56 = .ok (.aload_n 0, 1) := by decide +kernel
theorem dX12_weigh_57 : decode cX12_weigh 57 = .ok (.getfield 64, 3) := by decide +kernel
theorem dX12_weigh_60 : decode cX12_weigh 60 = .ok (.iload_n 1, 1) := by decide +kernel
theorem dX12_weigh_61 : decode cX12_weigh 61 = .ok (.iaload, 1) := by decide +kernel
theorem dX12_weigh_62 : decode cX12_weigh 62 = .ok (.iaload, 1) := by decide +kernel
theorem dX12_weigh_63 : decode cX12_weigh 63 = .ok (.goto 5, 3) := by decide +kernel
theorem dX12_weigh_66 : decode cX12_weigh 66 = .ok (.bipush 100, 2) := by decide +kernel
theorem dX12_weigh_68 : decode cX12_weigh 68 = .ok (.ireturn, 1) := by decide +kernel
theorem dX12_originOf_0 : decode cX12_originOf 0 = .ok (.iload_n 1, 1) := by decide +kernel
theorem dX12_originOf_1 : decode cX12_originOf 1 = .ok (.sipush 640, 3) := by decide +kernel
theorem dX12_originOf_4 : decode cX12_originOf 4 = .ok (.if_icmp .ge 20, 3) := by decide +kernel
theorem dX12_originOf_7 : decode cX12_originOf 7 = .ok (.aload_n 0, 1) := by decide +kernel
theorem dX12_originOf_8 : decode cX12_originOf 8 = .ok (.getfield 85, 3) := by decide +kernel
theorem dX12_originOf_11 : decode cX12_originOf 11 = .ok (.aload_n 0, 1) := by decide +kernel
theorem dX12_originOf_12 : decode cX12_originOf 12 = .ok (.getfield 97, 3) := by decide +kernel
theorem dX12_originOf_15 : decode cX12_originOf 15 = .ok (.iload_n 1, 1) := by decide +kernel
theorem dX12_originOf_16 : decode cX12_originOf 16 = .ok (.bipush 16, 2) := by decide +kernel
theorem dX12_originOf_18 : decode cX12_originOf 18 = .ok (.idiv, 1) := by decide +kernel
theorem dX12_originOf_19 : decode cX12_originOf 19 = .ok (.iaload, 1) := by decide +kernel
theorem dX12_originOf_20 : decode cX12_originOf 20 = .ok (.iaload, 1) := by decide +kernel
theorem dX12_originOf_21 : decode cX12_originOf 21 = .ok (.goto 4, 3) := by decide +kernel
theorem dX12_originOf_24 : decode cX12_originOf 24 = .ok (.iconst 2, 1) := by decide +kernel
theorem dX12_originOf_25 : decode cX12_originOf 25 = .ok (.ireturn, 1) := by decide +kernel
theorem dX12_rank_0 : decode cX12_rank 0 = .ok (.aload_n 0, 1) := by decide +kernel
theorem dX12_rank_1 : decode cX12_rank 1 = .ok (.getfield 115, 3) := by decide +kernel
theorem dX12_rank_4 : decode cX12_rank 4 = .ok (.iload_n 1, 1) := by decide +kernel
theorem dX12_rank_5 : decode cX12_rank 5 = .ok (.iaload, 1) := by decide +kernel
theorem dX12_rank_6 : decode cX12_rank 6 = .ok (.iconst 1, 1) := by decide +kernel
theorem dX12_rank_7 : decode cX12_rank 7 = .ok (.if_icmp .ne 13, 3) := by decide +kernel
theorem dX12_rank_10 : decode cX12_rank 10 = .ok (.iconst 5, 1) := by decide +kernel
theorem dX12_rank_11 : decode cX12_rank 11 = .ok (.aload_n 0, 1) := by decide +kernel
theorem dX12_rank_12 : decode cX12_rank 12 = .ok (.iload_n 1, 1) := by decide +kernel
theorem dX12_rank_13 : decode cX12_rank 13 = .ok (.invokevirtual 332, 3) := by decide +kernel
theorem dX12_rank_16 : decode cX12_rank 16 = .ok (.isub, 1) := by decide +kernel
theorem dX12_rank_17 : decode cX12_rank 17 = .ok (.goto 8, 3) := by decide +kernel
theorem dX12_rank_20 : decode cX12_rank 20 = .ok (.aload_n 0, 1) := by decide +kernel
theorem dX12_rank_21 : decode cX12_rank 21 = .ok (.iload_n 1, 1) := by decide +kernel
theorem dX12_rank_22 : decode cX12_rank 22 = .ok (.invokevirtual 332, 3) := by decide +kernel
theorem dX12_rank_25 : decode cX12_rank 25 = .ok (.ireturn, 1) := by decide +kernel
theorem dX12_depthOf_0 : decode cX12_depthOf 0 = .ok (.aload_n 0, 1) := by decide +kernel
theorem dX12_depthOf_1 : decode cX12_depthOf 1 = .ok (.iload_n 1, 1) := by decide +kernel
theorem dX12_depthOf_2 : decode cX12_depthOf 2 = .ok (.sipush 640, 3) := by decide +kernel
theorem dX12_depthOf_5 : decode cX12_depthOf 5 = .ok (.if_icmp .ge 20, 3) := by decide +kernel
theorem dX12_depthOf_8 : decode cX12_depthOf 8 = .ok (.aload_n 0, 1) := by decide +kernel
theorem dX12_depthOf_9 : decode cX12_depthOf 9 = .ok (.getfield 88, 3) := by decide +kernel
theorem dX12_depthOf_12 : decode cX12_depthOf 12 = .ok (.aload_n 0, 1) := by decide +kernel
theorem dX12_depthOf_13 : decode cX12_depthOf 13 = .ok (.getfield 97, 3) := by decide +kernel
theorem dX12_depthOf_16 : decode cX12_depthOf 16 = .ok (.iload_n 1, 1) := by decide +kernel
theorem dX12_depthOf_17 : decode cX12_depthOf 17 = .ok (.bipush 16, 2) := by decide +kernel
theorem dX12_depthOf_19 : decode cX12_depthOf 19 = .ok (.idiv, 1) := by decide +kernel
theorem dX12_depthOf_20 : decode cX12_depthOf 20 = .ok (.iaload, 1) := by decide +kernel
theorem dX12_depthOf_21 : decode cX12_depthOf 21 = .ok (.iaload, 1) := by decide +kernel
theorem dX12_depthOf_22 : decode cX12_depthOf 22 = .ok (.goto 14, 3) := by decide +kernel
theorem dX12_depthOf_25 : decode cX12_depthOf 25 = .ok (.aload_n 0, 1) := by decide +kernel
theorem dX12_depthOf_26 : decode cX12_depthOf 26 = .ok (.iload_n 1, 1) := by decide +kernel
theorem dX12_depthOf_27 : decode cX12_depthOf 27 = .ok (.bipush 16, 2) := by decide +kernel
theorem dX12_depthOf_29 : decode cX12_depthOf 29 = .ok (.idiv, 1) := by decide +kernel
theorem dX12_depthOf_30 : decode cX12_depthOf 30 = .ok (.bipush 40, 2) := by decide +kernel
theorem dX12_depthOf_32 : decode cX12_depthOf 32 = .ok (.isub, 1) := by decide +kernel
theorem dX12_depthOf_33 : decode cX12_depthOf 33 = .ok (.invokevirtual 242, 3) := by decide +kernel
theorem dX12_depthOf_36 : decode cX12_depthOf 36 = .ok (.invokevirtual 335, 3) := by decide +kernel
theorem dX12_depthOf_39 : decode cX12_depthOf 39 = .ok (.ireturn, 1) := by decide +kernel
theorem dX12_layerOf_0 : decode cX12_layerOf 0 = .ok (.iload_n 1, 1) := by decide +kernel
theorem dX12_layerOf_1 : decode cX12_layerOf 1 = .ok (.sipush 640, 3) := by decide +kernel
theorem dX12_layerOf_4 : decode cX12_layerOf 4 = .ok (.if_icmp .ge 20, 3) := by decide +kernel
theorem dX12_layerOf_7 : decode cX12_layerOf 7 = .ok (.aload_n 0, 1) := by decide +kernel
theorem dX12_layerOf_8 : decode cX12_layerOf 8 = .ok (.getfield 91, 3) := by decide +kernel
theorem dX12_layerOf_11 : decode cX12_layerOf 11 = .ok (.aload_n 0, 1) := by decide +kernel
theorem dX12_layerOf_12 : decode cX12_layerOf 12 = .ok (.getfield 97, 3) := by decide +kernel
theorem dX12_layerOf_15 : decode cX12_layerOf 15 = .ok (.iload_n 1, 1) := by decide +kernel
theorem dX12_layerOf_16 : decode cX12_layerOf 16 = .ok (.bipush 16, 2) := by decide +kernel
theorem dX12_layerOf_18 : decode cX12_layerOf 18 = .ok (.idiv, 1) := by decide +kernel
theorem dX12_layerOf_19 : decode cX12_layerOf 19 = .ok (.iaload, 1) := by decide +kernel
theorem dX12_layerOf_20 : decode cX12_layerOf 20 = .ok (.iaload, 1) := by decide +kernel
theorem dX12_layerOf_21 : decode cX12_layerOf 21 = .ok (.goto 4, 3) := by decide +kernel
theorem dX12_layerOf_24 : decode cX12_layerOf 24 = .ok (.iconst (-1), 1) := by decide +kernel
theorem dX12_layerOf_25 : decode cX12_layerOf 25 = .ok (.istore_n 2, 1) := by decide +kernel
theorem dX12_layerOf_26 : decode cX12_layerOf 26 = .ok (.iload_n 2, 1) := by decide +kernel
theorem dX12_layerOf_27 : decode cX12_layerOf 27 = .ok (.ifCond .ge 7, 3) := by decide +kernel
theorem dX12_layerOf_30 : decode cX12_layerOf 30 = .ok (.iconst 4, 1) := by decide +kernel
theorem dX12_layerOf_31 : decode cX12_layerOf 31 = .ok (.goto 4, 3) := by decide +kernel
theorem dX12_layerOf_34 : decode cX12_layerOf 34 = .ok (.iload_n 2, 1) := by decide +kernel
theorem dX12_layerOf_35 : decode cX12_layerOf 35 = .ok (.ireturn, 1) := by decide +kernel
theorem dX12_against_0 : decode cX12_against 0 = .ok (.aload_n 0, 1) := by decide +kernel
theorem dX12_against_1 : decode cX12_against 1 = .ok (.getfield 115, 3) := by decide +kernel
theorem dX12_against_4 : decode cX12_against 4 = .ok (.iload_n 1, 1) := by decide +kernel
theorem dX12_against_5 : decode cX12_against 5 = .ok (.iaload, 1) := by decide +kernel
theorem dX12_against_6 : decode cX12_against 6 = .ok (.iconst 1, 1) := by decide +kernel
theorem dX12_against_7 : decode cX12_against 7 = .ok (.if_icmp .ne 7, 3) := by decide +kernel
theorem dX12_against_10 : decode cX12_against 10 = .ok (.iconst (-1), 1) := by decide +kernel
theorem dX12_against_11 : decode cX12_against 11 = .ok (.goto 4, 3) := by decide +kernel
theorem dX12_against_14 : decode cX12_against 14 = .ok (.iconst 1, 1) := by decide +kernel
theorem dX12_against_15 : decode cX12_against 15 = .ok (.istore_n 3, 1) := by decide +kernel
theorem dX12_against_16 : decode cX12_against 16 = .ok (.aload_n 0, 1) := by decide +kernel
theorem dX12_against_17 : decode cX12_against 17 = .ok (.iload_n 1, 1) := by decide +kernel
theorem dX12_against_18 : decode cX12_against 18 = .ok (.invokevirtual 338, 3) := by decide +kernel
theorem dX12_against_21 : decode cX12_against 21 = .ok (.aload_n 0, 1) := by decide +kernel
theorem dX12_against_22 : decode cX12_against 22 = .ok (.iload_n 2, 1) := by decide +kernel
theorem dX12_against_23 : decode cX12_against 23 = .ok (.invokevirtual 338, 3) := by decide +kernel
theorem dX12_against_26 : decode cX12_against 26 = .ok (.if_icmp .eq 22, 3) := by decide +kernel
theorem dX12_against_29 : decode cX12_against 29 = .ok (.aload_n 0, 1) := by decide +kernel
theorem dX12_against_30 : decode cX12_against 30 = .ok (.iload_n 1, 1) := by decide +kernel
theorem dX12_against_31 : decode cX12_against 31 = .ok (.invokevirtual 338, 3) := by decide +kernel
theorem dX12_against_34 : decode cX12_against 34 = .ok (.aload_n 0, 1) := by decide +kernel
theorem dX12_against_35 : decode cX12_against 35 = .ok (.iload_n 2, 1) := by decide +kernel
theorem dX12_against_36 : decode cX12_against 36 = .ok (.invokevirtual 338, 3) := by decide +kernel
theorem dX12_against_39 : decode cX12_against 39 = .ok (.if_icmp .le 7, 3) := by decide +kernel
theorem dX12_against_42 : decode cX12_against 42 = .ok (.iconst 1, 1) := by decide +kernel
theorem dX12_against_43 : decode cX12_against 43 = .ok (.goto 4, 3) := by decide +kernel
theorem dX12_against_46 : decode cX12_against 46 = .ok (.iconst (-1), 1) := by decide +kernel
theorem dX12_against_47 : decode cX12_against 47 = .ok (.ireturn, 1) := by decide +kernel
theorem dX12_against_48 : decode cX12_against 48 = .ok (.aload_n 0, 1) := by decide +kernel
theorem dX12_against_49 : decode cX12_against 49 = .ok (.iload_n 1, 1) := by decide +kernel
theorem dX12_against_50 : decode cX12_against 50 = .ok (.invokevirtual 341, 3) := by decide +kernel
theorem dX12_against_53 : decode cX12_against 53 = .ok (.aload_n 0, 1) := by decide +kernel
theorem dX12_against_54 : decode cX12_against 54 = .ok (.iload_n 2, 1) := by decide +kernel
theorem dX12_against_55 : decode cX12_against 55 = .ok (.invokevirtual 341, 3) := by decide +kernel
theorem dX12_against_58 : decode cX12_against 58 = .ok (.if_icmp .eq 25, 3) := by decide +kernel
theorem dX12_against_61 : decode cX12_against 61 = .ok (.aload_n 0, 1) := by decide +kernel
theorem dX12_against_62 : decode cX12_against 62 = .ok (.iload_n 1, 1) := by decide +kernel
theorem dX12_against_63 : decode cX12_against 63 = .ok (.invokevirtual 341, 3) := by decide +kernel
theorem dX12_against_66 : decode cX12_against 66 = .ok (.aload_n 0, 1) := by decide +kernel
theorem dX12_against_67 : decode cX12_against 67 = .ok (.iload_n 2, 1) := by decide +kernel
theorem dX12_against_68 : decode cX12_against 68 = .ok (.invokevirtual 341, 3) := by decide +kernel
theorem dX12_against_71 : decode cX12_against 71 = .ok (.if_icmp .ge 7, 3) := by decide +kernel
theorem dX12_against_74 : decode cX12_against 74 = .ok (.iconst 2, 1) := by decide +kernel
theorem dX12_against_75 : decode cX12_against 75 = .ok (.goto 5, 3) := by decide +kernel
theorem dX12_against_78 : decode cX12_against 78 = .ok (.bipush (-2), 2) := by decide +kernel
theorem dX12_against_80 : decode cX12_against 80 = .ok (.iload_n 3, 1) := by decide +kernel
theorem dX12_against_81 : decode cX12_against 81 = .ok (.imul, 1) := by decide +kernel
theorem dX12_against_82 : decode cX12_against 82 = .ok (.ireturn, 1) := by decide +kernel
theorem dX12_against_83 : decode cX12_against 83 = .ok (.iload_n 1, 1) := by decide +kernel
theorem dX12_against_84 : decode cX12_against 84 = .ok (.sipush 640, 3) := by decide +kernel
theorem dX12_against_87 : decode cX12_against 87 = .ok (.if_icmp .ge 10, 3) := by decide +kernel
theorem dX12_against_90 : decode cX12_against 90 = .ok (.iload_n 2, 1) := by decide +kernel
theorem dX12_against_91 : decode cX12_against 91 = .ok (.sipush 640, 3) := by decide +kernel
theorem dX12_against_94 : decode cX12_against 94 = .ok (.if_icmp .lt 17, 3) := by decide +kernel
theorem dX12_against_97 : decode cX12_against 97 = .ok (.iload_n 1, 1) := by decide +kernel
theorem dX12_against_98 : decode cX12_against 98 = .ok (.sipush 640, 3) := by decide +kernel
theorem dX12_against_101 : decode cX12_against 101 = .ok (.if_icmp .lt 7, 3) := by decide +kernel
theorem dX12_against_104 : decode cX12_against 104 = .ok (.iconst 3, 1) := by decide +kernel
theorem dX12_against_105 : decode cX12_against 105 = .ok (.goto 5, 3) := by decide +kernel
theorem dX12_against_108 : decode cX12_against 108 = .ok (.bipush (-3), 2) := by decide +kernel
theorem dX12_against_110 : decode cX12_against 110 = .ok (.ireturn, 1) := by decide +kernel
theorem dX12_against_111 : decode cX12_against 111 = .ok (.aload_n 0, 1) := by decide +kernel
theorem dX12_against_112 : decode cX12_against 112 = .ok (.iload_n 1, 1) := by decide +kernel
theorem dX12_against_113 : decode cX12_against 113 = .ok (.invokevirtual 344, 3) := by decide +kernel
theorem dX12_against_116 : decode cX12_against 116 = .ok (.aload_n 0, 1) := by decide +kernel
theorem dX12_against_117 : decode cX12_against 117 = .ok (.iload_n 2, 1) := by decide +kernel
theorem dX12_against_118 : decode cX12_against 118 = .ok (.invokevirtual 344, 3) := by decide +kernel
theorem dX12_against_121 : decode cX12_against 121 = .ok (.if_icmp .eq 25, 3) := by decide +kernel
theorem dX12_against_124 : decode cX12_against 124 = .ok (.aload_n 0, 1) := by decide +kernel
theorem dX12_against_125 : decode cX12_against 125 = .ok (.iload_n 1, 1) := by decide +kernel
theorem dX12_against_126 : decode cX12_against 126 = .ok (.invokevirtual 344, 3) := by decide +kernel
theorem dX12_against_129 : decode cX12_against 129 = .ok (.aload_n 0, 1) := by decide +kernel
theorem dX12_against_130 : decode cX12_against 130 = .ok (.iload_n 2, 1) := by decide +kernel
theorem dX12_against_131 : decode cX12_against 131 = .ok (.invokevirtual 344, 3) := by decide +kernel
theorem dX12_against_134 : decode cX12_against 134 = .ok (.if_icmp .le 7, 3) := by decide +kernel
theorem dX12_against_137 : decode cX12_against 137 = .ok (.iconst 4, 1) := by decide +kernel
theorem dX12_against_138 : decode cX12_against 138 = .ok (.goto 5, 3) := by decide +kernel
theorem dX12_against_141 : decode cX12_against 141 = .ok (.bipush (-4), 2) := by decide +kernel
theorem dX12_against_143 : decode cX12_against 143 = .ok (.iload_n 3, 1) := by decide +kernel
theorem dX12_against_144 : decode cX12_against 144 = .ok (.imul, 1) := by decide +kernel
theorem dX12_against_145 : decode cX12_against 145 = .ok (.ireturn, 1) := by decide +kernel
theorem dX12_against_146 : decode cX12_against 146 = .ok (.iload_n 1, 1) := by decide +kernel
theorem dX12_against_147 : decode cX12_against 147 = .ok (.bipush 16, 2) := by decide +kernel
theorem dX12_against_149 : decode cX12_against 149 = .ok (.idiv, 1) := by decide +kernel
theorem dX12_against_150 : decode cX12_against 150 = .ok (.istore 4, 2) := by decide +kernel
theorem dX12_against_152 : decode cX12_against 152 = .ok (.iload_n 2, 1) := by decide +kernel
theorem dX12_against_153 : decode cX12_against 153 = .ok (.bipush 16, 2) := by decide +kernel
theorem dX12_against_155 : decode cX12_against 155 = .ok (.idiv, 1) := by decide +kernel
theorem dX12_against_156 : decode cX12_against 156 = .ok (.istore 5, 2) := by decide +kernel
theorem dX12_against_158 : decode cX12_against 158 = .ok (.aload_n 0, 1) := by decide +kernel
theorem dX12_against_159 : decode cX12_against 159 = .ok (.getfield 67, 3) := by decide +kernel
theorem dX12_against_162 : decode cX12_against 162 = .ok (.aload_n 0, 1) := by decide +kernel
theorem dX12_against_163 : decode cX12_against 163 = .ok (.getfield 100, 3) := by decide +kernel
theorem dX12_against_166 : decode cX12_against 166 = .ok (.iload 4, 2) := by decide +kernel
theorem dX12_against_168 : decode cX12_against 168 = .ok (.iaload, 1) := by decide +kernel
theorem dX12_against_169 : decode cX12_against 169 = .ok (.iaload, 1) := by decide +kernel
theorem dX12_against_170 : decode cX12_against 170 = .ok (.aload_n 0, 1) := by decide +kernel
theorem dX12_against_171 : decode cX12_against 171 = .ok (.getfield 67, 3) := by decide +kernel
theorem dX12_against_174 : decode cX12_against 174 = .ok (.aload_n 0, 1) := by decide +kernel
theorem dX12_against_175 : decode cX12_against 175 = .ok (.getfield 100, 3) := by decide +kernel
theorem dX12_against_178 : decode cX12_against 178 = .ok (.iload 5, 2) := by decide +kernel
theorem dX12_against_180 : decode cX12_against 180 = .ok (.iaload, 1) := by decide +kernel
theorem dX12_against_181 : decode cX12_against 181 = .ok (.iaload, 1) := by decide +kernel
theorem dX12_against_182 : decode cX12_against 182 = .ok (.if_icmp .eq 37, 3) := by decide +kernel
theorem dX12_against_185 : decode cX12_against 185 = .ok (.aload_n 0, 1) := by decide +kernel
theorem dX12_against_186 : decode cX12_against 186 = .ok (.getfield 67, 3) := by decide +kernel
theorem dX12_against_189 : decode cX12_against 189 = .ok (.aload_n 0, 1) := by decide +kernel
theorem dX12_against_190 : decode cX12_against 190 = .ok (.getfield 100, 3) := by decide +kernel
theorem dX12_against_193 : decode cX12_against 193 = .ok (.iload 4, 2) := by decide +kernel
theorem dX12_against_195 : decode cX12_against 195 = .ok (.iaload, 1) := by decide +kernel
theorem dX12_against_196 : decode cX12_against 196 = .ok (.iaload, 1) := by decide +kernel
theorem dX12_against_197 : decode cX12_against 197 = .ok (.aload_n 0, 1) := by decide +kernel
theorem dX12_against_198 : decode cX12_against 198 = .ok (.getfield 67, 3) := by decide +kernel
theorem dX12_against_201 : decode cX12_against 201 = .ok (.aload_n 0, 1) := by decide +kernel
theorem dX12_against_202 : decode cX12_against 202 = .ok (.getfield 100, 3) := by decide +kernel
theorem dX12_against_205 : decode cX12_against 205 = .ok (.iload 5, 2) := by decide +kernel
theorem dX12_against_207 : decode cX12_against 207 = .ok (.iaload, 1) := by decide +kernel
theorem dX12_against_208 : decode cX12_against 208 = .ok (.iaload, 1) := by decide +kernel
theorem dX12_against_209 : decode cX12_against 209 = .ok (.if_icmp .le 7, 3) := by decide +kernel
theorem dX12_against_212 : decode cX12_against 212 = .ok (.iconst 5, 1) := by decide +kernel
theorem dX12_against_213 : decode cX12_against 213 = .ok (.goto 5, 3) := by decide +kernel
theorem dX12_against_216 : decode cX12_against 216 = .ok (.bipush (-5), 2) := by decide +kernel
theorem dX12_against_218 : decode cX12_against 218 = .ok (.ireturn, 1) := by decide +kernel
theorem dX12_against_219 : decode cX12_against 219 = .ok (.aload_n 0, 1) := by decide +kernel
theorem dX12_against_220 : decode cX12_against 220 = .ok (.getfield 97, 3) := by decide +kernel
theorem dX12_against_223 : decode cX12_against 223 = .ok (.iload 4, 2) := by decide +kernel
theorem dX12_against_225 : decode cX12_against 225 = .ok (.iaload, 1) := by decide +kernel
theorem dX12_against_226 : decode cX12_against 226 = .ok (.aload_n 0, 1) := by decide +kernel
theorem dX12_against_227 : decode cX12_against 227 = .ok (.getfield 97, 3) := by decide +kernel
theorem dX12_against_230 : decode cX12_against 230 = .ok (.iload 5, 2) := by decide +kernel
theorem dX12_against_232 : decode cX12_against 232 = .ok (.iaload, 1) := by decide +kernel
theorem dX12_against_233 : decode cX12_against 233 = .ok (.if_icmp .gt 27, 3) := by decide +kernel
theorem dX12_against_236 : decode cX12_against 236 = .ok (.aload_n 0, 1) := by decide +kernel
theorem dX12_against_237 : decode cX12_against 237 = .ok (.getfield 97, 3) := by decide +kernel
theorem dX12_against_240 : decode cX12_against 240 = .ok (.iload 4, 2) := by decide +kernel
theorem dX12_against_242 : decode cX12_against 242 = .ok (.iaload, 1) := by decide +kernel
theorem dX12_against_243 : decode cX12_against 243 = .ok (.aload_n 0, 1) := by decide +kernel
theorem dX12_against_244 : decode cX12_against 244 = .ok (.getfield 97, 3) := by decide +kernel
theorem dX12_against_247 : decode cX12_against 247 = .ok (.iload 5, 2) := by decide +kernel
theorem dX12_against_249 : decode cX12_against 249 = .ok (.iaload, 1) := by decide +kernel
theorem dX12_against_250 : decode cX12_against 250 = .ok (.if_icmp .ne 15, 3) := by decide +kernel
theorem dX12_against_253 : decode cX12_against 253 = .ok (.iload 4, 2) := by decide +kernel
theorem dX12_against_255 : decode cX12_against 255 = .ok (.iload 5, 2) := by decide +kernel
theorem dX12_against_257 : decode cX12_against 257 = .ok (.if_icmp .le 8, 3) := by decide +kernel
theorem dX12_against_260 : decode cX12_against 260 = .ok (.bipush 6, 2) := by decide +kernel
theorem dX12_against_262 : decode cX12_against 262 = .ok (.goto 5, 3) := by decide +kernel
theorem dX12_against_265 : decode cX12_against 265 = .ok (.bipush (-6), 2) := by decide +kernel
theorem dX12_against_267 : decode cX12_against 267 = .ok (.ireturn, 1) := by decide +kernel
theorem dX12_holder_0 : decode cX12_holder 0 = .ok (.aload_n 0, 1) := by decide +kernel
theorem dX12_holder_1 : decode cX12_holder 1 = .ok (.getfield 196, 3) := by decide +kernel
theorem dX12_holder_4 : decode cX12_holder 4 = .ok (.iload_n 1, 1) := by decide +kernel
theorem dX12_holder_5 : decode cX12_holder 5 = .ok (.iaload, 1) := by decide +kernel
theorem dX12_holder_6 : decode cX12_holder 6 = .ok (.istore_n 3, 1) := by decide +kernel
theorem dX12_holder_7 : decode cX12_holder 7 = .ok (.iload_n 3, 1) := by decide +kernel
theorem dX12_holder_8 : decode cX12_holder 8 = .ok (.ifCond .lt 33, 3) := by decide +kernel
theorem dX12_holder_11 : decode cX12_holder 11 = .ok (.aload_n 0, 1) := by decide +kernel
theorem dX12_holder_12 : decode cX12_holder 12 = .ok (.getfield 127, 3) := by decide +kernel
theorem dX12_holder_15 : decode cX12_holder 15 = .ok (.bipush 12, 2) := by decide +kernel
theorem dX12_holder_17 : decode cX12_holder 17 = .ok (.bipush 30, 2) := by decide +kernel
theorem dX12_holder_19 : decode cX12_holder 19 = .ok (.iload_n 2, 1) := by decide +kernel
theorem dX12_holder_20 : decode cX12_holder 20 = .ok (.imul, 1) := by decide +kernel
theorem dX12_holder_21 : decode cX12_holder 21 = .ok (.iload_n 3, 1) := by decide +kernel
theorem dX12_holder_22 : decode cX12_holder 22 = .ok (.iadd, 1) := by decide +kernel
theorem dX12_holder_23 : decode cX12_holder 23 = .ok (.imul, 1) := by decide +kernel
theorem dX12_holder_24 : decode cX12_holder 24 = .ok (.bipush 6, 2) := by decide +kernel
theorem dX12_holder_26 : decode cX12_holder 26 = .ok (.iadd, 1) := by decide +kernel
theorem dX12_holder_27 : decode cX12_holder 27 = .ok (.iaload, 1) := by decide +kernel
theorem dX12_holder_28 : decode cX12_holder 28 = .ok (.ifCond .gt 13, 3) := by decide +kernel
theorem dX12_holder_31 : decode cX12_holder 31 = .ok (.aload_n 0, 1) := by decide +kernel
theorem dX12_holder_32 : decode cX12_holder 32 = .ok (.getfield 196, 3) := by decide +kernel
theorem dX12_holder_35 : decode cX12_holder 35 = .ok (.iload_n 3, 1) := by decide +kernel
theorem dX12_holder_36 : decode cX12_holder 36 = .ok (.iaload, 1) := by decide +kernel
theorem dX12_holder_37 : decode cX12_holder 37 = .ok (.istore_n 3, 1) := by decide +kernel
theorem dX12_holder_38 : decode cX12_holder 38 = .ok (.goto (-31), 3) := by decide +kernel
theorem dX12_holder_41 : decode cX12_holder 41 = .ok (.iload_n 3, 1) := by decide +kernel
theorem dX12_holder_42 : decode cX12_holder 42 = .ok (.ireturn, 1) := by decide +kernel
theorem dX12_fits_0 : decode cX12_fits 0 = .ok (.aload_n 0, 1) := by decide +kernel
theorem dX12_fits_1 : decode cX12_fits 1 = .ok (.getfield 103, 3) := by decide +kernel
theorem dX12_fits_4 : decode cX12_fits 4 = .ok (.iload_n 1, 1) := by decide +kernel
theorem dX12_fits_5 : decode cX12_fits 5 = .ok (.iaload, 1) := by decide +kernel
theorem dX12_fits_6 : decode cX12_fits 6 = .ok (.iconst 2, 1) := by decide +kernel
theorem dX12_fits_7 : decode cX12_fits 7 = .ok (.if_icmp .eq 13, 3) := by decide +kernel
theorem dX12_fits_10 : decode cX12_fits 10 = .ok (.aload_n 0, 1) := by decide +kernel
theorem dX12_fits_11 : decode cX12_fits 11 = .ok (.getfield 103, 3) := by decide +kernel
theorem dX12_fits_14 : decode cX12_fits 14 = .ok (.iload_n 1, 1) := by decide +kernel
theorem dX12_fits_15 : decode cX12_fits 15 = .ok (.iaload, 1) := by decide +kernel
theorem dX12_fits_16 : decode cX12_fits 16 = .ok (.iconst 3, 1) := by decide +kernel
theorem dX12_fits_17 : decode cX12_fits 17 = .ok (.if_icmp .ne 12, 3) := by decide +kernel
theorem dX12_fits_20 : decode cX12_fits 20 = .ok (.aload_n 0, 1) := by decide +kernel
theorem dX12_fits_21 : decode cX12_fits 21 = .ok (.iload_n 2, 1) := by decide +kernel
theorem dX12_fits_22 : decode cX12_fits 22 = .ok (.iload_n 3, 1) := by decide +kernel
theorem dX12_fits_23 : decode cX12_fits 23 = .ok (.invokevirtual 347, 3) := by decide +kernel
theorem dX12_fits_26 : decode cX12_fits 26 = .ok (.goto 4, 3) := by decide +kernel
theorem dX12_fits_29 : decode cX12_fits 29 = .ok (.iconst (-1), 1) := by decide +kernel
theorem dX12_fits_30 : decode cX12_fits 30 = .ok (.istore 5, 2) := by decide +kernel
theorem dX12_fits_32 : decode cX12_fits 32 = .ok (.iload 5, 2) := by decide +kernel
theorem dX12_fits_34 : decode cX12_fits 34 = .ok (.ifCond .ge 7, 3) := by decide +kernel
theorem dX12_fits_37 : decode cX12_fits 37 = .ok (.iconst 0, 1) := by decide +kernel
theorem dX12_fits_38 : decode cX12_fits 38 = .ok (.goto 15, 3) := by decide +kernel
theorem dX12_fits_41 : decode cX12_fits 41 = .ok (.aload_n 0, 1) := by decide +kernel
theorem dX12_fits_42 : decode cX12_fits 42 = .ok (.getfield 136, 3) := by decide +kernel
theorem dX12_fits_45 : decode cX12_fits 45 = .ok (.bipush 30, 2) := by decide +kernel
theorem dX12_fits_47 : decode cX12_fits 47 = .ok (.iload_n 3, 1) := by decide +kernel
theorem dX12_fits_48 : decode cX12_fits 48 = .ok (.imul, 1) := by decide +kernel
theorem dX12_fits_49 : decode cX12_fits 49 = .ok (.iload 5, 2) := by decide +kernel
theorem dX12_fits_51 : decode cX12_fits 51 = .ok (.iadd, 1) := by decide +kernel
theorem dX12_fits_52 : decode cX12_fits 52 = .ok (.iaload, 1) := by decide +kernel
theorem dX12_fits_53 : decode cX12_fits 53 = .ok (.istore 6, 2) := by decide +kernel
theorem dX12_fits_55 : decode cX12_fits 55 = .ok (.aload_n 0, 1) := by decide +kernel
theorem dX12_fits_56 : decode cX12_fits 56 = .ok (.getfield 103, 3) := by decide +kernel
theorem dX12_fits_59 : decode cX12_fits 59 = .ok (.iload_n 1, 1) := by decide +kernel
theorem dX12_fits_60 : decode cX12_fits 60 = .ok (.iaload, 1) := by decide +kernel
theorem dX12_fits_61 : decode cX12_fits 61 = .ok (.tableswitch 141 0 4 #[35, 54, 73, 100, 127], 35) := by decide +kernel
theorem dX12_fits_96 : decode cX12_fits 96 = .ok (.aload_n 0, 1) := by decide +kernel
theorem dX12_fits_97 : decode cX12_fits 97 = .ok (.getfield 221, 3) := by decide +kernel
theorem dX12_fits_100 : decode cX12_fits 100 = .ok (.aload_n 0, 1) := by decide +kernel
theorem dX12_fits_101 : decode cX12_fits 101 = .ok (.getfield 106, 3) := by decide +kernel
theorem dX12_fits_104 : decode cX12_fits 104 = .ok (.iload_n 1, 1) := by decide +kernel
theorem dX12_fits_105 : decode cX12_fits 105 = .ok (.iaload, 1) := by decide +kernel
theorem dX12_fits_106 : decode cX12_fits 106 = .ok (.if_icmp .lt 7, 3) := by decide +kernel
theorem dX12_fits_109 : decode cX12_fits 109 = .ok (.iconst 1, 1) := by decide +kernel
theorem dX12_fits_110 : decode cX12_fits 110 = .ok (.goto 4, 3) := by decide +kernel
theorem dX12_fits_113 : decode cX12_fits 113 = .ok (.iconst 0, 1) := by decide +kernel
theorem dX12_fits_114 : decode cX12_fits 114 = .ok (.ireturn, 1) := by decide +kernel
theorem dX12_fits_115 : decode cX12_fits 115 = .ok (.aload_n 0, 1) := by decide +kernel
theorem dX12_fits_116 : decode cX12_fits 116 = .ok (.getfield 221, 3) := by decide +kernel
theorem dX12_fits_119 : decode cX12_fits 119 = .ok (.aload_n 0, 1) := by decide +kernel
theorem dX12_fits_120 : decode cX12_fits 120 = .ok (.getfield 106, 3) := by decide +kernel
theorem dX12_fits_123 : decode cX12_fits 123 = .ok (.iload_n 1, 1) := by decide +kernel
theorem dX12_fits_124 : decode cX12_fits 124 = .ok (.iaload, 1) := by decide +kernel
theorem dX12_fits_125 : decode cX12_fits 125 = .ok (.if_icmp .gt 7, 3) := by decide +kernel
theorem dX12_fits_128 : decode cX12_fits 128 = .ok (.iconst 1, 1) := by decide +kernel
theorem dX12_fits_129 : decode cX12_fits 129 = .ok (.goto 4, 3) := by decide +kernel
theorem dX12_fits_132 : decode cX12_fits 132 = .ok (.iconst 0, 1) := by decide +kernel
theorem dX12_fits_133 : decode cX12_fits 133 = .ok (.ireturn, 1) := by decide +kernel
theorem dX12_fits_134 : decode cX12_fits 134 = .ok (.iload 4, 2) := by decide +kernel
theorem dX12_fits_136 : decode cX12_fits 136 = .ok (.ifCond .ne 23, 3) := by decide +kernel
theorem dX12_fits_139 : decode cX12_fits 139 = .ok (.iload 5, 2) := by decide +kernel
theorem dX12_fits_141 : decode cX12_fits 141 = .ok (.ifCond .lt 18, 3) := by decide +kernel
theorem dX12_fits_144 : decode cX12_fits 144 = .ok (.iload 6, 2) := by decide +kernel
theorem dX12_fits_146 : decode cX12_fits 146 = .ok (.aload_n 0, 1) := by decide +kernel
theorem dX12_fits_147 : decode cX12_fits 147 = .ok (.getfield 106, 3) := by decide +kernel
theorem dX12_fits_150 : decode cX12_fits 150 = .ok (.iload_n 1, 1) := by decide +kernel
theorem dX12_fits_151 : decode cX12_fits 151 = .ok (.iaload, 1) := by decide +kernel
theorem dX12_fits_152 : decode cX12_fits 152 = .ok (.if_icmp .lt 7, 3) := by decide +kernel
theorem dX12_fits_155 : decode cX12_fits 155 = .ok (.iconst 1, 1) := by decide +kernel
theorem dX12_fits_156 : decode cX12_fits 156 = .ok (.goto 4, 3) := by decide +kernel
theorem dX12_fits_159 : decode cX12_fits 159 = .ok (.iconst 0, 1) := by decide +kernel
theorem dX12_fits_160 : decode cX12_fits 160 = .ok (.ireturn, 1) := by decide +kernel
theorem dX12_fits_161 : decode cX12_fits 161 = .ok (.iload 4, 2) := by decide +kernel
theorem dX12_fits_163 : decode cX12_fits 163 = .ok (.ifCond .ne 23, 3) := by decide +kernel
theorem dX12_fits_166 : decode cX12_fits 166 = .ok (.iload 5, 2) := by decide +kernel
theorem dX12_fits_168 : decode cX12_fits 168 = .ok (.ifCond .lt 18, 3) := by decide +kernel
theorem dX12_fits_171 : decode cX12_fits 171 = .ok (.iload 6, 2) := by decide +kernel
theorem dX12_fits_173 : decode cX12_fits 173 = .ok (.aload_n 0, 1) := by decide +kernel
theorem dX12_fits_174 : decode cX12_fits 174 = .ok (.getfield 106, 3) := by decide +kernel
theorem dX12_fits_177 : decode cX12_fits 177 = .ok (.iload_n 1, 1) := by decide +kernel
theorem dX12_fits_178 : decode cX12_fits 178 = .ok (.iaload, 1) := by decide +kernel
theorem dX12_fits_179 : decode cX12_fits 179 = .ok (.if_icmp .gt 7, 3) := by decide +kernel
theorem dX12_fits_182 : decode cX12_fits 182 = .ok (.iconst 1, 1) := by decide +kernel
theorem dX12_fits_183 : decode cX12_fits 183 = .ok (.goto 4, 3) := by decide +kernel
theorem dX12_fits_186 : decode cX12_fits 186 = .ok (.iconst 0, 1) := by decide +kernel
theorem dX12_fits_187 : decode cX12_fits 187 = .ok (.ireturn, 1) := by decide +kernel
theorem dX12_fits_188 : decode cX12_fits 188 = .ok (.aload_n 0, 1) := by decide +kernel
theorem dX12_fits_189 : decode cX12_fits 189 = .ok (.aload_n 0, 1) := by decide +kernel
theorem dX12_fits_190 : decode cX12_fits 190 = .ok (.getfield 106, 3) := by decide +kernel
theorem dX12_fits_193 : decode cX12_fits 193 = .ok (.iload_n 1, 1) := by decide +kernel
theorem dX12_fits_194 : decode cX12_fits 194 = .ok (.iaload, 1) := by decide +kernel
theorem dX12_fits_195 : decode cX12_fits 195 = .ok (.iconst 0, 1) := by decide +kernel
theorem dX12_fits_196 : decode cX12_fits 196 = .ok (.bipush 14, 2) := by decide +kernel
theorem dX12_fits_198 : decode cX12_fits 198 = .ok (.invokevirtual 230, 3) := by decide +kernel
theorem dX12_fits_201 : decode cX12_fits 201 = .ok (.ireturn, 1) := by decide +kernel
theorem dX12_fits_202 : decode cX12_fits 202 = .ok (.iconst 1, 1) := by decide +kernel
theorem dX12_fits_203 : decode cX12_fits 203 = .ok (.ireturn, 1) := by decide +kernel
theorem dX12_stands_0 : decode cX12_stands 0 = .ok (.aload_n 0, 1) := by decide +kernel
theorem dX12_stands_1 : decode cX12_stands 1 = .ok (.getfield 94, 3) := by decide +kernel
theorem dX12_stands_4 : decode cX12_stands 4 = .ok (.aload_n 0, 1) := by decide +kernel
theorem dX12_stands_5 : decode cX12_stands 5 = .ok (.getfield 97, 3) := by decide +kernel
theorem dX12_stands_8 : decode cX12_stands 8 = .ok (.iload_n 1, 1) := by decide +kernel
theorem dX12_stands_9 : decode cX12_stands 9 = .ok (.iaload, 1) := by decide +kernel
theorem dX12_stands_10 : decode cX12_stands 10 = .ok (.iaload, 1) := by decide +kernel
theorem dX12_stands_11 : decode cX12_stands 11 = .ok (.iconst 1, 1) := by decide +kernel
theorem dX12_stands_12 : decode cX12_stands 12 = .ok (.if_icmp .ne 39, 3) := by decide +kernel
theorem dX12_stands_15 : decode cX12_stands 15 = .ok (.aload_n 0, 1) := by decide +kernel
theorem dX12_stands_16 : decode cX12_stands 16 = .ok (.getfield 88, 3) := by decide +kernel
theorem dX12_stands_19 : decode cX12_stands 19 = .ok (.aload_n 0, 1) := by decide +kernel
theorem dX12_stands_20 : decode cX12_stands 20 = .ok (.getfield 97, 3) := by decide +kernel
theorem dX12_stands_23 : decode cX12_stands 23 = .ok (.iload_n 1, 1) := by decide +kernel
theorem dX12_stands_24 : decode cX12_stands 24 = .ok (.iaload, 1) := by decide +kernel
theorem dX12_stands_25 : decode cX12_stands 25 = .ok (.iaload, 1) := by decide +kernel
theorem dX12_stands_26 : decode cX12_stands 26 = .ok (.ifCond .lt 21, 3) := by decide +kernel
theorem dX12_stands_29 : decode cX12_stands 29 = .ok (.aload_n 0, 1) := by decide +kernel
theorem dX12_stands_30 : decode cX12_stands 30 = .ok (.aload_n 0, 1) := by decide +kernel
theorem dX12_stands_31 : decode cX12_stands 31 = .ok (.getfield 88, 3) := by decide +kernel
theorem dX12_stands_34 : decode cX12_stands 34 = .ok (.aload_n 0, 1) := by decide +kernel
theorem dX12_stands_35 : decode cX12_stands 35 = .ok (.getfield 97, 3) := by decide +kernel
theorem dX12_stands_38 : decode cX12_stands 38 = .ok (.iload_n 1, 1) := by decide +kernel
theorem dX12_stands_39 : decode cX12_stands 39 = .ok (.iaload, 1) := by decide +kernel
theorem dX12_stands_40 : decode cX12_stands 40 = .ok (.iaload, 1) := by decide +kernel
theorem dX12_stands_41 : decode cX12_stands 41 = .ok (.invokevirtual 245, 3) := by decide +kernel
theorem dX12_stands_44 : decode cX12_stands 44 = .ok (.ifCond .eq 7, 3) := by decide +kernel
theorem dX12_stands_47 : decode cX12_stands 47 = .ok (.iconst 1, 1) := by decide +kernel
theorem dX12_stands_48 : decode cX12_stands 48 = .ok (.goto 4, 3) := by decide +kernel
theorem dX12_stands_51 : decode cX12_stands 51 = .ok (.iconst 0, 1) := by decide +kernel
theorem dX12_stands_52 : decode cX12_stands 52 = .ok (.ireturn, 1) := by decide +kernel
theorem dX12_winner_0 : decode cX12_winner 0 = .ok (.aload_n 0, 1) := by decide +kernel
theorem dX12_winner_1 : decode cX12_winner 1 = .ok (.getfield 109, 3) := by decide +kernel
theorem dX12_winner_4 : decode cX12_winner 4 = .ok (.bipush 16, 2) := by decide +kernel
theorem dX12_winner_6 : decode cX12_winner 6 = .ok (.bipush 40, 2) := by decide +kernel
theorem dX12_winner_8 : decode cX12_winner 8 = .ok (.iload_n 1, 1) := by decide +kernel
theorem dX12_winner_9 : decode cX12_winner 9 = .ok (.iadd, 1) := by decide +kernel
theorem dX12_winner_10 : decode cX12_winner 10 = .ok (.imul, 1) := by decide +kernel
theorem dX12_winner_11 : decode cX12_winner 11 = .ok (.iload_n 2, 1) := by decide +kernel
theorem dX12_winner_12 : decode cX12_winner 12 = .ok (.iadd, 1) := by decide +kernel
theorem dX12_winner_13 : decode cX12_winner 13 = .ok (.iaload, 1) := by decide +kernel
theorem dX12_winner_14 : decode cX12_winner 14 = .ok (.ifCond .lt 20, 3) := by decide +kernel
theorem dX12_winner_17 : decode cX12_winner 17 = .ok (.iload_n 3, 1) := by decide +kernel
theorem dX12_winner_18 : decode cX12_winner 18 = .ok (.iconst 2, 1) := by decide +kernel
theorem dX12_winner_19 : decode cX12_winner 19 = .ok (.if_icmp .le 15, 3) := by decide +kernel
theorem dX12_winner_22 : decode cX12_winner 22 = .ok (.bipush 16, 2) := by decide +kernel
theorem dX12_winner_24 : decode cX12_winner 24 = .ok (.bipush 40, 2) := by decide +kernel
theorem dX12_winner_26 : decode cX12_winner 26 = .ok (.iload_n 1, 1) := by decide +kernel
theorem dX12_winner_27 : decode cX12_winner 27 = .ok (.iadd, 1) := by decide +kernel
theorem dX12_winner_28 : decode cX12_winner 28 = .ok (.imul, 1) := by decide +kernel
theorem dX12_winner_29 : decode cX12_winner 29 = .ok (.iload_n 2, 1) := by decide +kernel
theorem dX12_winner_30 : decode cX12_winner 30 = .ok (.iadd, 1) := by decide +kernel
theorem dX12_winner_31 : decode cX12_winner 31 = .ok (.goto 4, 3) := by decide +kernel
theorem dX12_winner_34 : decode cX12_winner 34 = .ok (.iconst (-1), 1) := by decide +kernel
theorem dX12_winner_35 : decode cX12_winner 35 = .ok (.istore 6, 2) := by decide +kernel
theorem dX12_winner_37 : decode cX12_winner 37 = .ok (.iconst 0, 1) := by decide +kernel
theorem dX12_winner_38 : decode cX12_winner 38 = .ok (.istore 7, 2) := by decide +kernel
theorem dX12_winner_40 : decode cX12_winner 40 = .ok (.iload 7, 2) := by decide +kernel
theorem dX12_winner_42 : decode cX12_winner 42 = .ok (.aload_n 0, 1) := by decide +kernel
theorem dX12_winner_43 : decode cX12_winner 43 = .ok (.getfield 325, 3) := by decide +kernel
theorem dX12_winner_46 : decode cX12_winner 46 = .ok (.if_icmp .ge 113, 3) := by decide +kernel
theorem dX12_winner_49 : decode cX12_winner 49 = .ok (.bipush 16, 2) := by decide +kernel
theorem dX12_winner_51 : decode cX12_winner 51 = .ok (.iload 7, 2) := by decide +kernel
theorem dX12_winner_53 : decode cX12_winner 53 = .ok (.imul, 1) := by decide +kernel
theorem dX12_winner_54 : decode cX12_winner 54 = .ok (.iload_n 2, 1) := by decide +kernel
theorem dX12_winner_55 : decode cX12_winner 55 = .ok (.iadd, 1) := by decide +kernel
theorem dX12_winner_56 : decode cX12_winner 56 = .ok (.istore 8, 2) := by decide +kernel
theorem dX12_winner_58 : decode cX12_winner 58 = .ok (.aload_n 0, 1) := by decide +kernel
theorem dX12_winner_59 : decode cX12_winner 59 = .ok (.getfield 109, 3) := by decide +kernel
theorem dX12_winner_62 : decode cX12_winner 62 = .ok (.iload 8, 2) := by decide +kernel
theorem dX12_winner_64 : decode cX12_winner 64 = .ok (.iaload, 1) := by decide +kernel
theorem dX12_winner_65 : decode cX12_winner 65 = .ok (.ifCond .lt 55, 3) := by decide +kernel
theorem dX12_winner_68 : decode cX12_winner 68 = .ok (.aload_n 0, 1) := by decide +kernel
theorem dX12_winner_69 : decode cX12_winner 69 = .ok (.iload 8, 2) := by decide +kernel
theorem dX12_winner_71 : decode cX12_winner 71 = .ok (.invokevirtual 332, 3) := by decide +kernel
theorem dX12_winner_74 : decode cX12_winner 74 = .ok (.iload_n 3, 1) := by decide +kernel
theorem dX12_winner_75 : decode cX12_winner 75 = .ok (.if_icmp .ge 45, 3) := by decide +kernel
theorem dX12_winner_78 : decode cX12_winner 78 = .ok (.aload_n 0, 1) := by decide +kernel
theorem dX12_winner_79 : decode cX12_winner 79 = .ok (.aload_n 0, 1) := by decide +kernel
theorem dX12_winner_80 : decode cX12_winner 80 = .ok (.getfield 190, 3) := by decide +kernel
theorem dX12_winner_83 : decode cX12_winner 83 = .ok (.iload 7, 2) := by decide +kernel
theorem dX12_winner_85 : decode cX12_winner 85 = .ok (.iaload, 1) := by decide +kernel
theorem dX12_winner_86 : decode cX12_winner 86 = .ok (.iload_n 1, 1) := by decide +kernel
theorem dX12_winner_87 : decode cX12_winner 87 = .ok (.invokevirtual 288, 3) := by decide +kernel
theorem dX12_winner_90 : decode cX12_winner 90 = .ok (.ifCond .eq 30, 3) := by decide +kernel
theorem dX12_winner_93 : decode cX12_winner 93 = .ok (.aload_n 0, 1) := by decide +kernel
theorem dX12_winner_94 : decode cX12_winner 94 = .ok (.iload 7, 2) := by decide +kernel
theorem dX12_winner_96 : decode cX12_winner 96 = .ok (.invokevirtual 350, 3) := by decide +kernel
theorem dX12_winner_99 : decode cX12_winner 99 = .ok (.ifCond .eq 21, 3) := by decide +kernel
theorem dX12_winner_102 : decode cX12_winner 102 = .ok (.aload_n 0, 1) := by decide +kernel
theorem dX12_winner_103 : decode cX12_winner 103 = .ok (.iload 7, 2) := by decide +kernel
theorem dX12_winner_105 : decode cX12_winner 105 = .ok (.iload_n 1, 1) := by decide +kernel
theorem dX12_winner_106 : decode cX12_winner 106 = .ok (.iload 4, 2) := by decide +kernel
theorem dX12_winner_108 : decode cX12_winner 108 = .ok (.iload 5, 2) := by decide +kernel
theorem dX12_winner_110 : decode cX12_winner 110 = .ok (.invokevirtual 353, 3) := by decide +kernel
theorem dX12_winner_113 : decode cX12_winner 113 = .ok (.ifCond .eq 7, 3) := by decide +kernel
theorem dX12_winner_116 : decode cX12_winner 116 = .ok (.iconst 1, 1) := by decide +kernel
theorem dX12_winner_117 : decode cX12_winner 117 = .ok (.goto 4, 3) := by decide +kernel
theorem dX12_winner_120 : decode cX12_winner 120 = .ok (.iconst 0, 1) := by decide +kernel
theorem dX12_winner_121 : decode cX12_winner 121 = .ok (.istore 9, 2) := by decide +kernel
theorem dX12_winner_123 : decode cX12_winner 123 = .ok (.iload 9, 2) := by decide +kernel
theorem dX12_winner_125 : decode cX12_winner 125 = .ok (.ifCond .eq 24, 3) := by decide +kernel
theorem dX12_winner_128 : decode cX12_winner 128 = .ok (.iload 6, 2) := by decide +kernel
theorem dX12_winner_130 : decode cX12_winner 130 = .ok (.ifCond .lt 14, 3) := by decide +kernel
theorem dX12_winner_133 : decode cX12_winner 133 = .ok (.aload_n 0, 1) := by decide +kernel
theorem dX12_winner_134 : decode cX12_winner 134 = .ok (.iload 8, 2) := by decide +kernel
theorem dX12_winner_136 : decode cX12_winner 136 = .ok (.iload 6, 2) := by decide +kernel
theorem dX12_winner_138 : decode cX12_winner 138 = .ok (.invokevirtual 357, 3) := by decide +kernel
theorem dX12_winner_141 : decode cX12_winner 141 = .ok (.ifCond .le 8, 3) := by decide +kernel
theorem dX12_winner_144 : decode cX12_winner 144 = .ok (.iload 8, 2) := by decide +kernel
theorem dX12_winner_146 : decode cX12_winner 146 = .ok (.goto 5, 3) := by decide +kernel
theorem dX12_winner_149 : decode cX12_winner 149 = .ok (.iload 6, 2) := by decide +kernel
theorem dX12_winner_151 : decode cX12_winner 151 = .ok (.istore 6, 2) := by decide +kernel
theorem dX12_winner_153 : decode cX12_winner 153 = .ok (.iinc 7 1, 3) := by decide +kernel
theorem dX12_winner_156 : decode cX12_winner 156 = .ok (.goto (-116), 3) := by decide +kernel
theorem dX12_winner_159 : decode cX12_winner 159 = .ok (.iload 6, 2) := by decide +kernel
theorem dX12_winner_161 : decode cX12_winner 161 = .ok (.ireturn, 1) := by decide +kernel
theorem dX12_found_0 : decode cX12_found 0 = .ok (.aload_n 0, 1) := by decide +kernel
theorem dX12_found_1 : decode cX12_found 1 = .ok (.iload_n 1, 1) := by decide +kernel
theorem dX12_found_2 : decode cX12_found 2 = .ok (.iload_n 2, 1) := by decide +kernel
theorem dX12_found_3 : decode cX12_found 3 = .ok (.iconst 3, 1) := by decide +kernel
theorem dX12_found_4 : decode cX12_found 4 = .ok (.iload_n 3, 1) := by decide +kernel
theorem dX12_found_5 : decode cX12_found 5 = .ok (.iload 4, 2) := by decide +kernel
theorem dX12_found_7 : decode cX12_found 7 = .ok (.invokevirtual 360, 3) := by decide +kernel
theorem dX12_found_10 : decode cX12_found 10 = .ok (.istore 5, 2) := by decide +kernel
theorem dX12_found_12 : decode cX12_found 12 = .ok (.iload 5, 2) := by decide +kernel
theorem dX12_found_14 : decode cX12_found 14 = .ok (.ifCond .lt 35, 3) := by decide +kernel
theorem dX12_found_17 : decode cX12_found 17 = .ok (.aload_n 0, 1) := by decide +kernel
theorem dX12_found_18 : decode cX12_found 18 = .ok (.getfield 109, 3) := by decide +kernel
theorem dX12_found_21 : decode cX12_found 21 = .ok (.iload 5, 2) := by decide +kernel
theorem dX12_found_23 : decode cX12_found 23 = .ok (.iaload, 1) := by decide +kernel
theorem dX12_found_24 : decode cX12_found 24 = .ok (.bipush 10, 2) := by decide +kernel
theorem dX12_found_26 : decode cX12_found 26 = .ok (.if_icmp .ne 23, 3) := by decide +kernel
theorem dX12_found_29 : decode cX12_found 29 = .ok (.aload_n 0, 1) := by decide +kernel
theorem dX12_found_30 : decode cX12_found 30 = .ok (.iload_n 1, 1) := by decide +kernel
theorem dX12_found_31 : decode cX12_found 31 = .ok (.iload_n 2, 1) := by decide +kernel
theorem dX12_found_32 : decode cX12_found 32 = .ok (.aload_n 0, 1) := by decide +kernel
theorem dX12_found_33 : decode cX12_found 33 = .ok (.iload 5, 2) := by decide +kernel
theorem dX12_found_35 : decode cX12_found 35 = .ok (.invokevirtual 332, 3) := by decide +kernel
theorem dX12_found_38 : decode cX12_found 38 = .ok (.iload_n 3, 1) := by decide +kernel
theorem dX12_found_39 : decode cX12_found 39 = .ok (.iload 4, 2) := by decide +kernel
theorem dX12_found_41 : decode cX12_found 41 = .ok (.invokevirtual 360, 3) := by decide +kernel
theorem dX12_found_44 : decode cX12_found 44 = .ok (.istore 5, 2) := by decide +kernel
theorem dX12_found_46 : decode cX12_found 46 = .ok (.goto (-34), 3) := by decide +kernel
theorem dX12_found_49 : decode cX12_found 49 = .ok (.iload 5, 2) := by decide +kernel
theorem dX12_found_51 : decode cX12_found 51 = .ok (.ireturn, 1) := by decide +kernel
theorem dX12_suits_0 : decode cX12_suits 0 = .ok (.aload_n 0, 1) := by decide +kernel
theorem dX12_suits_1 : decode cX12_suits 1 = .ok (.iload_n 1, 1) := by decide +kernel
theorem dX12_suits_2 : decode cX12_suits 2 = .ok (.iconst 1, 1) := by decide +kernel
theorem dX12_suits_3 : decode cX12_suits 3 = .ok (.iconst 4, 1) := by decide +kernel
theorem dX12_suits_4 : decode cX12_suits 4 = .ok (.invokevirtual 230, 3) := by decide +kernel
theorem dX12_suits_7 : decode cX12_suits 7 = .ok (.istore_n 3, 1) := by decide +kernel
theorem dX12_suits_8 : decode cX12_suits 8 = .ok (.iload_n 2, 1) := by decide +kernel
theorem dX12_suits_9 : decode cX12_suits 9 = .ok (.bipush 6, 2) := by decide +kernel
theorem dX12_suits_11 : decode cX12_suits 11 = .ok (.if_icmp .gt 62, 3) := by decide +kernel
theorem dX12_suits_14 : decode cX12_suits 14 = .ok (.iload_n 1, 1) := by decide +kernel
theorem dX12_suits_15 : decode cX12_suits 15 = .ok (.bipush 11, 2) := by decide +kernel
theorem dX12_suits_17 : decode cX12_suits 17 = .ok (.if_icmp .gt 56, 3) := by decide +kernel
theorem dX12_suits_20 : decode cX12_suits 20 = .ok (.iload_n 2, 1) := by decide +kernel
theorem dX12_suits_21 : decode cX12_suits 21 = .ok (.ifCond .ne 7, 3) := by decide +kernel
theorem dX12_suits_24 : decode cX12_suits 24 = .ok (.iload_n 3, 1) := by decide +kernel
theorem dX12_suits_25 : decode cX12_suits 25 = .ok (.ifCond .eq 48, 3) := by decide +kernel
theorem dX12_suits_28 : decode cX12_suits 28 = .ok (.aload_n 0, 1) := by decide +kernel
theorem dX12_suits_29 : decode cX12_suits 29 = .ok (.iload_n 2, 1) := by decide +kernel
theorem dX12_suits_30 : decode cX12_suits 30 = .ok (.iconst 1, 1) := by decide +kernel
theorem dX12_suits_31 : decode cX12_suits 31 = .ok (.iconst 3, 1) := by decide +kernel
theorem dX12_suits_32 : decode cX12_suits 32 = .ok (.invokevirtual 230, 3) := by decide +kernel
theorem dX12_suits_35 : decode cX12_suits 35 = .ok (.ifCond .ne 8, 3) := by decide +kernel
theorem dX12_suits_38 : decode cX12_suits 38 = .ok (.iload_n 2, 1) := by decide +kernel
theorem dX12_suits_39 : decode cX12_suits 39 = .ok (.iconst 5, 1) := by decide +kernel
theorem dX12_suits_40 : decode cX12_suits 40 = .ok (.if_icmp .ne 7, 3) := by decide +kernel
theorem dX12_suits_43 : decode cX12_suits 43 = .ok (.iload_n 3, 1) := by decide +kernel
theorem dX12_suits_44 : decode cX12_suits 44 = .ok (.ifCond .ne 29, 3) := by decide +kernel
theorem dX12_suits_47 : decode cX12_suits 47 = .ok (.iload_n 2, 1) := by decide +kernel
theorem dX12_suits_48 : decode cX12_suits 48 = .ok (.iconst 4, 1) := by decide +kernel
theorem dX12_suits_49 : decode cX12_suits 49 = .ok (.if_icmp .ne 13, 3) := by decide +kernel
theorem dX12_suits_52 : decode cX12_suits 52 = .ok (.aload_n 0, 1) := by decide +kernel
theorem dX12_suits_53 : decode cX12_suits 53 = .ok (.iload_n 1, 1) := by decide +kernel
theorem dX12_suits_54 : decode cX12_suits 54 = .ok (.iconst 1, 1) := by decide +kernel
theorem dX12_suits_55 : decode cX12_suits 55 = .ok (.iconst 2, 1) := by decide +kernel
theorem dX12_suits_56 : decode cX12_suits 56 = .ok (.invokevirtual 230, 3) := by decide +kernel
theorem dX12_suits_59 : decode cX12_suits 59 = .ok (.ifCond .ne 14, 3) := by decide +kernel
theorem dX12_suits_62 : decode cX12_suits 62 = .ok (.iload_n 2, 1) := by decide +kernel
theorem dX12_suits_63 : decode cX12_suits 63 = .ok (.bipush 6, 2) := by decide +kernel
theorem dX12_suits_65 : decode cX12_suits 65 = .ok (.if_icmp .ne 12, 3) := by decide +kernel
theorem dX12_suits_68 : decode cX12_suits 68 = .ok (.iload_n 1, 1) := by decide +kernel
theorem dX12_suits_69 : decode cX12_suits 69 = .ok (.iconst 2, 1) := by decide +kernel
theorem dX12_suits_70 : decode cX12_suits 70 = .ok (.if_icmp .ne 7, 3) := by decide +kernel
theorem dX12_suits_73 : decode cX12_suits 73 = .ok (.iconst 1, 1) := by decide +kernel
theorem dX12_suits_74 : decode cX12_suits 74 = .ok (.goto 4, 3) := by decide +kernel
theorem dX12_suits_77 : decode cX12_suits 77 = .ok (.iconst 0, 1) := by decide +kernel
theorem dX12_suits_78 : decode cX12_suits 78 = .ok (.ireturn, 1) := by decide +kernel
theorem dX12_bounded_0 : decode cX12_bounded 0 = .ok (.lload_n 1, 1) := by decide +kernel
theorem dX12_bounded_1 : decode cX12_bounded 1 = .ok (.ldc2_w 364, 3) := by decide +kernel
theorem dX12_bounded_4 : decode cX12_bounded 4 = .ok (.lcmp, 1) := by decide +kernel
theorem dX12_bounded_5 : decode cX12_bounded 5 = .ok (.ifCond .ge 9, 3) := by decide +kernel
theorem dX12_bounded_8 : decode cX12_bounded 8 = .ok (.ldc_w 366, 3) := by decide +kernel
theorem dX12_bounded_11 : decode cX12_bounded 11 = .ok (.goto 19, 3) := by decide +kernel
theorem dX12_bounded_14 : decode cX12_bounded 14 = .ok (.lload_n 1, 1) := by decide +kernel
theorem dX12_bounded_15 : decode cX12_bounded 15 = .ok (.ldc2_w 367, 3) := by decide +kernel
theorem dX12_bounded_18 : decode cX12_bounded 18 = .ok (.lcmp, 1) := by decide +kernel
theorem dX12_bounded_19 : decode cX12_bounded 19 = .ok (.ifCond .le 9, 3) := by decide +kernel
theorem dX12_bounded_22 : decode cX12_bounded 22 = .ok (.ldc_w 369, 3) := by decide +kernel
theorem dX12_bounded_25 : decode cX12_bounded 25 = .ok (.goto 5, 3) := by decide +kernel
theorem dX12_bounded_28 : decode cX12_bounded 28 = .ok (.lload_n 1, 1) := by decide +kernel
theorem dX12_bounded_29 : decode cX12_bounded 29 = .ok (.l2i, 1) := by decide +kernel
theorem dX12_bounded_30 : decode cX12_bounded 30 = .ok (.ireturn, 1) := by decide +kernel
theorem dX12_initial_0 : decode cX12_initial 0 = .ok (.iload_n 1, 1) := by decide +kernel
theorem dX12_initial_1 : decode cX12_initial 1 = .ok (.iconst 1, 1) := by decide +kernel
theorem dX12_initial_2 : decode cX12_initial 2 = .ok (.if_icmp .ne 8, 3) := by decide +kernel
theorem dX12_initial_5 : decode cX12_initial 5 = .ok (.bipush 16, 2) := by decide +kernel
theorem dX12_initial_7 : decode cX12_initial 7 = .ok (.goto 40, 3) := by decide +kernel
theorem dX12_initial_10 : decode cX12_initial 10 = .ok (.iload_n 1, 1) := by decide +kernel
theorem dX12_initial_11 : decode cX12_initial 11 = .ok (.iconst 2, 1) := by decide +kernel
theorem dX12_initial_12 : decode cX12_initial 12 = .ok (.if_icmp .ne 9, 3) := by decide +kernel
theorem dX12_initial_15 : decode cX12_initial 15 = .ok (.ldc_w 370, 3) := by decide +kernel
theorem dX12_initial_18 : decode cX12_initial 18 = .ok (.goto 29, 3) := by decide +kernel
theorem dX12_initial_21 : decode cX12_initial 21 = .ok (.iload_n 1, 1) := by decide +kernel
theorem dX12_initial_22 : decode cX12_initial 22 = .ok (.iconst 5, 1) := by decide +kernel
theorem dX12_initial_23 : decode cX12_initial 23 = .ok (.if_icmp .ne 7, 3) := by decide +kernel
theorem dX12_initial_26 : decode cX12_initial 26 = .ok (.iconst 1, 1) := by decide +kernel
theorem dX12_initial_27 : decode cX12_initial 27 = .ok (.goto 20, 3) := by decide +kernel
theorem dX12_initial_30 : decode cX12_initial 30 = .ok (.iload_n 1, 1) := by decide +kernel
theorem dX12_initial_31 : decode cX12_initial 31 = .ok (.bipush 8, 2) := by decide +kernel
theorem dX12_initial_33 : decode cX12_initial 33 = .ok (.if_icmp .eq 9, 3) := by decide +kernel
theorem dX12_initial_36 : decode cX12_initial 36 = .ok (.iload_n 1, 1) := by decide +kernel
theorem dX12_initial_37 : decode cX12_initial 37 = .ok (.bipush 11, 2) := by decide +kernel
theorem dX12_initial_39 : decode cX12_initial 39 = .ok (.if_icmp .ne 7, 3) := by decide +kernel
theorem dX12_initial_42 : decode cX12_initial 42 = .ok (.iconst (-1), 1) := by decide +kernel
theorem dX12_initial_43 : decode cX12_initial 43 = .ok (.goto 4, 3) := by decide +kernel
theorem dX12_initial_46 : decode cX12_initial 46 = .ok (.iconst 0, 1) := by decide +kernel
theorem dX12_initial_47 : decode cX12_initial 47 = .ok (.ireturn, 1) := by decide +kernel
theorem dX12_inherited_0 : decode cX12_inherited 0 = .ok (.aload_n 0, 1) := by decide +kernel
theorem dX12_inherited_1 : decode cX12_inherited 1 = .ok (.getfield 196, 3) := by decide +kernel
theorem dX12_inherited_4 : decode cX12_inherited 4 = .ok (.iload_n 1, 1) := by decide +kernel
theorem dX12_inherited_5 : decode cX12_inherited 5 = .ok (.iaload, 1) := by decide +kernel
theorem dX12_inherited_6 : decode cX12_inherited 6 = .ok (.ifCond .ge 11, 3) := by decide +kernel
theorem dX12_inherited_9 : decode cX12_inherited 9 = .ok (.aload_n 0, 1) := by decide +kernel
theorem dX12_inherited_10 : decode cX12_inherited 10 = .ok (.iload_n 2, 1) := by decide +kernel
theorem dX12_inherited_11 : decode cX12_inherited 11 = .ok (.invokevirtual 371, 3) := by decide +kernel
theorem dX12_inherited_14 : decode cX12_inherited 14 = .ok (.goto 24, 3) := by decide +kernel
theorem dX12_inherited_17 : decode cX12_inherited 17 = .ok (.aload_n 0, 1) := by decide +kernel
theorem dX12_inherited_18 : decode cX12_inherited 18 = .ok (.getfield 127, 3) := by decide +kernel
theorem dX12_inherited_21 : decode cX12_inherited 21 = .ok (.bipush 12, 2) := by decide +kernel
theorem dX12_inherited_23 : decode cX12_inherited 23 = .ok (.bipush 30, 2) := by decide +kernel
theorem dX12_inherited_25 : decode cX12_inherited 25 = .ok (.iload_n 3, 1) := by decide +kernel
theorem dX12_inherited_26 : decode cX12_inherited 26 = .ok (.imul, 1) := by decide +kernel
theorem dX12_inherited_27 : decode cX12_inherited 27 = .ok (.aload_n 0, 1) := by decide +kernel
theorem dX12_inherited_28 : decode cX12_inherited 28 = .ok (.getfield 196, 3) := by decide +kernel
theorem dX12_inherited_31 : decode cX12_inherited 31 = .ok (.iload_n 1, 1) := by decide +kernel
theorem dX12_inherited_32 : decode cX12_inherited 32 = .ok (.iaload, 1) := by decide +kernel
theorem dX12_inherited_33 : decode cX12_inherited 33 = .ok (.iadd, 1) := by decide +kernel
theorem dX12_inherited_34 : decode cX12_inherited 34 = .ok (.imul, 1) := by decide +kernel
theorem dX12_inherited_35 : decode cX12_inherited 35 = .ok (.iload_n 2, 1) := by decide +kernel
theorem dX12_inherited_36 : decode cX12_inherited 36 = .ok (.iadd, 1) := by decide +kernel
theorem dX12_inherited_37 : decode cX12_inherited 37 = .ok (.iaload, 1) := by decide +kernel
theorem dX12_inherited_38 : decode cX12_inherited 38 = .ok (.ireturn, 1) := by decide +kernel
theorem dX12_aim_0 : decode cX12_aim 0 = .ok (.aload_n 0, 1) := by decide +kernel
theorem dX12_aim_1 : decode cX12_aim 1 = .ok (.getfield 118, 3) := by decide +kernel
theorem dX12_aim_4 : decode cX12_aim 4 = .ok (.aload_n 0, 1) := by decide +kernel
theorem dX12_aim_5 : decode cX12_aim 5 = .ok (.iload_n 1, 1) := by decide +kernel
theorem dX12_aim_6 : decode cX12_aim 6 = .ok (.bipush 12, 2) := by decide +kernel
theorem dX12_aim_8 : decode cX12_aim 8 = .ok (.iload_n 2, 1) := by decide +kernel
theorem dX12_aim_9 : decode cX12_aim 9 = .ok (.iadd, 1) := by decide +kernel
theorem dX12_aim_10 : decode cX12_aim 10 = .ok (.iload_n 3, 1) := by decide +kernel
theorem dX12_aim_11 : decode cX12_aim 11 = .ok (.iload 4, 2) := by decide +kernel
theorem dX12_aim_13 : decode cX12_aim 13 = .ok (.invokevirtual 374, 3) := by decide +kernel
theorem dX12_aim_16 : decode cX12_aim 16 = .ok (.iaload, 1) := by decide +kernel
theorem dX12_aim_17 : decode cX12_aim 17 = .ok (.bipush 12, 2) := by decide +kernel
theorem dX12_aim_19 : decode cX12_aim 19 = .ok (.isub, 1) := by decide +kernel
theorem dX12_aim_20 : decode cX12_aim 20 = .ok (.ireturn, 1) := by decide +kernel
-- draft()V
def f_draft_10  : Nat → Int32 → mS → Option (mS)
  | 0, _, _ => none
  | n + 1, x1, σ => if (4:Int32) ≤ x1 then ((wr σ 21 (30:Int32) ((-1):Int32)).bind (fun s1 => (wr s1 22 (30:Int32) (0:Int32)).bind (fun s2 => some s2))) else ((wr σ 16 ((120:Int32) + x1) (0:Int32)).bind (fun s3 => f_draft_10 n ((x1 + (1:Int32))) s3))
def f_draft  (σ : mS) : Option (mS) := (wr σ 14 (30:Int32) (1:Int32)).bind (fun s1 => f_draft_10 4000 ((0:Int32)) s1)
set_option maxRecDepth 20000 in
set_option maxHeartbeats 4000000 in
theorem N_draft_10 {p : Program} {l : Launch} {e : Env} {s : State} {m : MethodId} {args : Array Value} {below : List Frame} {meth : Method} {c : Code} {D : mD} {mb : Nat}  {n : Nat} {x1 : Int32} {σ : mS} {H : Heap} {locs : List Loc} {ls : Array Slot} {q : mS} (X : mX p s m args meth c cX12_draft 2 none D) (hP : mP D mb σ H) (hF : mF mb s.heap H locs)  (hl : lv_has ls 2 [(0, .ref mb), (1, .int x1)]) (h : f_draft_10  n x1 σ = some q) : mWw p l e 0 0 s m args below meth c D mb q none H locs (F0 m 10 ls []) := by
  have hx := X.1
  have hb := X.2.1
  have hown := X.2.2.2.1
  have hts := X.2.2.2.2.1
  induction n generalizing x1 σ H locs ls with
  | zero => exact absurd (show none = some q from h) (by simp)
  | succ n ih =>
    have h : (if (4:Int32) ≤ x1 then ((wr σ 21 (30:Int32) ((-1):Int32)).bind (fun s1 => (wr s1 22 (30:Int32) (0:Int32)).bind (fun s2 => some s2))) else ((wr σ 16 ((120:Int32) + x1) (0:Int32)).bind (fun s3 => f_draft_10 n ((x1 + (1:Int32))) s3))) = some q := h
    refine lv_iload_n hx hb dX12_draft_10 rfl (lv_at hl 1 rfl) ?_
    refine lv_iconst (v := (4:Int32)) hx hb dX12_draft_11 (by decide) ?_
    refine lv_icmp_ge (tgt := 31) hx hb dX12_draft_12 rfl (fun hc => ?_) (fun hc => ?_)
    · have h := ip hc h
      refine lv_aload_n hx hb dX12_draft_31 rfl (lv_at hl 0 rfl) ?_
      refine mg_hp X hP dX12_draft_32 ?_
      refine lv_bipush (v := (30:Int32)) hx hb dX12_draft_35 (by decide) ?_
      refine lv_iconst (v := ((-1):Int32)) hx hb dX12_draft_37 (by decide) ?_
      obtain ⟨s1, hs1, h⟩ := ob h
      refine m_ast X hP hF hs1 dX12_draft_38 (fun H locs hP hF => ?_)
      refine lv_aload_n hx hb dX12_draft_39 rfl (lv_at hl 0 rfl) ?_
      refine mg_hh X hP dX12_draft_40 ?_
      refine lv_bipush (v := (30:Int32)) hx hb dX12_draft_43 (by decide) ?_
      refine lv_iconst (v := (0:Int32)) hx hb dX12_draft_45 (by decide) ?_
      obtain ⟨s2, hs2, h⟩ := ob h
      refine m_ast X hP hF hs2 dX12_draft_46 (fun H locs hP hF => ?_)
      obtain rfl := sj h
      exact m_wv X hP hF dX12_draft_47
    · have h := ine hc h
      refine lv_aload_n hx hb dX12_draft_15 rfl (lv_at hl 0 rfl) ?_
      refine mg_nt X hP dX12_draft_16 ?_
      refine lv_bipush (v := (120:Int32)) hx hb dX12_draft_19 (by decide) ?_
      refine lv_iload_n hx hb dX12_draft_21 rfl (lv_at hl 1 rfl) ?_
      refine lv_iadd hx hb dX12_draft_22 ?_
      refine lv_iconst (v := (0:Int32)) hx hb dX12_draft_23 (by decide) ?_
      obtain ⟨s3, hs3, h⟩ := ob h
      refine m_ast X hP hF hs3 dX12_draft_24 (fun H locs hP hF => ?_)
      refine lv_iinc (v := (x1 + (1:Int32))) hx hb dX12_draft_25 hl (k := 1) rfl rfl (Nat.le_of_ble_eq_true rfl) rfl (fun ls (hl : lv_has ls 2 [(1, .int (x1 + (1:Int32))), (0, .ref mb)]) => ?_)
      refine lv_goto (tgt := 10) hx hb dX12_draft_28 rfl ?_
      exact ih hP hF (lv_sub hl [1, 0] rfl) h
set_option maxRecDepth 20000 in
set_option maxHeartbeats 4000000 in
theorem K_draft (l : Launch) (D : mD) (mb : Nat) (σ : mS)  {q : mS} (h : f_draft  σ = some q) : Met l yX12_draft (Cond.code yX12_draft cX12_draft 2 none :: BG) (rM 0 0) (mPc D mb σ []) (mQw D mb q none) 0 0 (mReg mb) := by
  refine Met.ofW (cc := cX12_draft) (maxL := 2) (ret := none) (by decide) rfl ?_
  intro p e s m args below meth c s₁ B hml hv
  obtain ⟨rfl, hP, hK⟩ := hv
  have X := mX_of B hml rfl hK
  have hx := X.1
  have hb := X.2.1
  have hown := X.2.2.2.1
  have hts := X.2.2.2.2.1
  have hl := lv_entry (.ref mb :: []) (n := 2) (Nat.le_of_ble_eq_true rfl)
  rw [lg_entry_eq]
  generalize (lg_sl (.ref mb :: []) ++ List.replicate (2 - (lg_sl (.ref mb :: [])).length) Slot.unset).toArray = ls at hl ⊢
  have hl : lv_has ls 2 [(0, .ref mb)] := hl
  have hF : mF mb s.heap s.heap [] := mF.rf
  show mWw p l e 0 0 s m (Value.ref mb :: []).toArray below meth c D mb q none s.heap [] (F0 m 0 ls [])
  have h : ((wr σ 14 (30:Int32) (1:Int32)).bind (fun s1 => f_draft_10 4000 ((0:Int32)) s1)) = some q := h
  refine lv_aload_n hx hb dX12_draft_0 rfl (lv_at hl 0 rfl) ?_
  refine mg_nc X hP dX12_draft_1 ?_
  refine lv_bipush (v := (30:Int32)) hx hb dX12_draft_4 (by decide) ?_
  refine lv_iconst (v := (1:Int32)) hx hb dX12_draft_6 (by decide) ?_
  obtain ⟨s1, hs1, h⟩ := ob h
  refine m_ast X hP hF hs1 dX12_draft_7 (fun H locs hP hF => ?_)
  refine lv_iconst (v := (0:Int32)) hx hb dX12_draft_8 (by decide) ?_
  refine lv_istore_n hx hb dX12_draft_9 rfl hl (Nat.le_of_ble_eq_true rfl) rfl (fun ls (hl : lv_has ls 2 [(1, .int (0:Int32)), (0, .ref mb)]) => ?_)
  exact N_draft_10 X hP hF (lv_sub hl [1, 0] rfl) h
theorem cl_draft {p : Program} {l : Launch} {e : Env} {s : State} {m : MethodId} {args : Array Value} {below : List Frame} {meth : Method} {c : Code} {D : mD} {mb : Nat} {H : Heap} {locs : List Loc} {Q : State → Prop} {cc : ByteArray} {pc fR lR nL : Nat} {ls : Array Slot} {rest : List Value} {ret : Option FieldType} {σ : mS} (X : mX p s m args meth c cc nL ret D) (hP : mP D mb σ H) (hF : mF mb s.heap H locs)  {q : mS} (h : f_draft  σ = some q) (hr : 0 + 1 ≤ fR ∧ 8 + (2 + 11) + 0 ≤ lR) (hl : ls.size = nL) (hW : (rest.map fun v => v.category).sum ≤ 8) (hdg : decode cc pc = .ok (.invokevirtual 224, 3)) (kk : ∀ (H1 : Heap) (locs1 : List Loc), mP D mb q H1 → mF mb s.heap H1 locs1 → W p l e (rM fR lR) s m args below meth c H1 locs1 0 0 Q (F0 m (pc + 3) ls rest)) : W p l e (rM fR lR) s m args below meth c H locs 0 0 Q (F0 m pc ls (.ref mb :: rest)) := m_cv (m_run (n := 0) X (K_draft l D mb σ  h) ⟨w_1575, w_1577, w_56, w_1578⟩ (hyX rfl (by decide +kernel)) rfl hr hP hl hW hdg rfl) hF kk
-- up(I)I
def f_up_46  (y0 : Int32) (σ : mS) : Option (Int32) := some y0
def f_up_45   (σ : mS) : Option (Int32) := f_up_46 (((-1):Int32)) σ
def f_up (x1 : Int32) (σ : mS) : Option (Int32) := (rd σ 6 x1).bind (fun v1 => if v1 < (0:Int32) then (if (σ.2 71) < (0:Int32) then (f_up_45 σ) else ((rd σ 7 x1).bind (fun v2 => if v2 = (σ.2 71) then (f_up_46 ((σ.2 71)) σ) else (f_up_45 σ)))) else ((rd σ 6 x1).bind (fun v3 => f_up_46 (v3) σ)))
set_option maxRecDepth 20000 in
set_option maxHeartbeats 4000000 in
theorem N_up_46 {p : Program} {l : Launch} {e : Env} {s : State} {m : MethodId} {args : Array Value} {below : List Frame} {meth : Method} {c : Code} {D : mD} {mb : Nat}   {y0 : Int32} {σ : mS} {ls : Array Slot} {r : Int32} (X : mX p s m args meth c cX12_up 2 (some .int) D) (hP : mP D mb σ s.heap)  (hl : lv_has ls 2 [(0, .ref mb)]) (h : f_up_46  y0 σ = some r) : mWr p l e 0 0 s m args below meth c (some (.int r)) (F0 m 46 ls [.int y0]) := by
  have hx := X.1
  have hb := X.2.1
  have hown := X.2.2.2.1
  have hts := X.2.2.2.2.1
  have h : (some y0) = some r := h
  obtain rfl := sj h
  exact m_ri X dX12_up_46
set_option maxRecDepth 20000 in
set_option maxHeartbeats 4000000 in
theorem N_up_45 {p : Program} {l : Launch} {e : Env} {s : State} {m : MethodId} {args : Array Value} {below : List Frame} {meth : Method} {c : Code} {D : mD} {mb : Nat}    {σ : mS} {ls : Array Slot} {r : Int32} (X : mX p s m args meth c cX12_up 2 (some .int) D) (hP : mP D mb σ s.heap)  (hl : lv_has ls 2 [(0, .ref mb)]) (h : f_up_45   σ = some r) : mWr p l e 0 0 s m args below meth c (some (.int r)) (F0 m 45 ls []) := by
  have hx := X.1
  have hb := X.2.1
  have hown := X.2.2.2.1
  have hts := X.2.2.2.2.1
  have h : (f_up_46 (((-1):Int32)) σ) = some r := h
  refine lv_iconst (v := ((-1):Int32)) hx hb dX12_up_45 (by decide) ?_
  exact N_up_46 X hP (lv_sub hl [0] rfl) h
set_option maxRecDepth 20000 in
set_option maxHeartbeats 4000000 in
theorem K_up (l : Launch) (D : mD) (mb : Nat) (σ : mS) (x1 : Int32) {r : Int32} (h : f_up x1 σ = some r) : Met l yX12_up (Cond.code yX12_up cX12_up 2 (some .int) :: BG) (rM 0 0) (mPc D mb σ [.int x1]) (mQr (some (.int r))) 0 0 (fun _ => False) := by
  refine Met.ofW (cc := cX12_up) (maxL := 2) (ret := (some .int)) (by decide) rfl ?_
  intro p e s m args below meth c s₁ B hml hv
  obtain ⟨rfl, hP, hK⟩ := hv
  have X := mX_of B hml rfl hK
  have hx := X.1
  have hb := X.2.1
  have hown := X.2.2.2.1
  have hts := X.2.2.2.2.1
  have hl := lv_entry (.ref mb :: [.int x1]) (n := 2) (Nat.le_of_ble_eq_true rfl)
  rw [lg_entry_eq]
  generalize (lg_sl (.ref mb :: [.int x1]) ++ List.replicate (2 - (lg_sl (.ref mb :: [.int x1])).length) Slot.unset).toArray = ls at hl ⊢
  have hl : lv_has ls 2 [(0, .ref mb), (1, .int x1)] := hl
  show mWr p l e 0 0 s m (Value.ref mb :: [.int x1]).toArray below meth c (some (.int r)) (F0 m 0 ls [])
  have h : ((rd σ 6 x1).bind (fun v1 => if v1 < (0:Int32) then (if (σ.2 71) < (0:Int32) then (f_up_45 σ) else ((rd σ 7 x1).bind (fun v2 => if v2 = (σ.2 71) then (f_up_46 ((σ.2 71)) σ) else (f_up_45 σ)))) else ((rd σ 6 x1).bind (fun v3 => f_up_46 (v3) σ)))) = some r := h
  refine lv_aload_n hx hb dX12_up_0 rfl (lv_at hl 0 rfl) ?_
  refine mg_parent X hP dX12_up_1 ?_
  refine lv_iload_n hx hb dX12_up_4 rfl (lv_at hl 1 rfl) ?_
  obtain ⟨v1, hv1, h⟩ := ob h
  refine m_ald X hP hv1 dX12_up_5 ?_
  refine lv_if_lt (tgt := 18) hx hb dX12_up_6 rfl (fun hc => ?_) (fun hc => ?_)
  · have h := ip hc h
    refine lv_aload_n hx hb dX12_up_18 rfl (lv_at hl 0 rfl) ?_
    refine mg_tree X hP dX12_up_19 ?_
    refine lv_if_lt (tgt := 45) hx hb dX12_up_22 rfl (fun hc => ?_) (fun hc => ?_)
    · have h := ip hc h
      exact N_up_45 X hP (lv_sub hl [0] rfl) h
    · have h := ine hc h
      refine lv_aload_n hx hb dX12_up_25 rfl (lv_at hl 0 rfl) ?_
      refine mg_host X hP dX12_up_26 ?_
      refine lv_iload_n hx hb dX12_up_29 rfl (lv_at hl 1 rfl) ?_
      obtain ⟨v2, hv2, h⟩ := ob h
      refine m_ald X hP hv2 dX12_up_30 ?_
      refine lv_aload_n hx hb dX12_up_31 rfl (lv_at hl 0 rfl) ?_
      refine mg_tree X hP dX12_up_32 ?_
      refine lv_icmp_ne (tgt := 45) hx hb dX12_up_35 rfl (fun hc => ?_) (fun hc => ?_)
      · have h := ine hc h
        exact N_up_45 X hP (lv_sub hl [0] rfl) h
      · have h := ip hc h
        refine lv_aload_n hx hb dX12_up_38 rfl (lv_at hl 0 rfl) ?_
        refine mg_tree X hP dX12_up_39 ?_
        refine lv_goto (tgt := 46) hx hb dX12_up_42 rfl ?_
        exact N_up_46 X hP (lv_sub hl [0] rfl) h
  · have h := ine hc h
    refine lv_aload_n hx hb dX12_up_9 rfl (lv_at hl 0 rfl) ?_
    refine mg_parent X hP dX12_up_10 ?_
    refine lv_iload_n hx hb dX12_up_13 rfl (lv_at hl 1 rfl) ?_
    obtain ⟨v3, hv3, h⟩ := ob h
    refine m_ald X hP hv3 dX12_up_14 ?_
    refine lv_goto (tgt := 46) hx hb dX12_up_15 rfl ?_
    exact N_up_46 X hP (lv_sub hl [0] rfl) h
theorem cl_up {p : Program} {l : Launch} {e : Env} {s : State} {m : MethodId} {args : Array Value} {below : List Frame} {meth : Method} {c : Code} {D : mD} {mb : Nat} {H : Heap} {locs : List Loc} {Q : State → Prop} {cc : ByteArray} {pc fR lR nL : Nat} {ls : Array Slot} {rest : List Value} {ret : Option FieldType} {σ : mS} (X : mX p s m args meth c cc nL ret D) (hP : mP D mb σ H) {x1 : Int32} {r : Int32} (h : f_up x1 σ = some r) (hr : 0 + 1 ≤ fR ∧ 8 + (2 + 11) + 0 ≤ lR) (hl : ls.size = nL) (hW : (rest.map fun v => v.category).sum ≤ 8) (hdg : decode cc pc = .ok (.invokevirtual 285, 3)) (kk : W p l e (rM fR lR) s m args below meth c H locs 0 0 Q (F0 m (pc + 3) ls (.int r :: rest))) : W p l e (rM fR lR) s m args below meth c H locs 0 0 Q (F0 m pc ls (.int x1 :: .ref mb :: rest)) := m_cr (m_run (n := 1) X (K_up l D mb σ x1 h) ⟨w_2059, w_2061, w_95, w_2062⟩ (hyX rfl (by decide +kernel)) rfl hr hP hl hW hdg rfl) kk
-- siblings(II)Z
def f_siblings_53  (y0 : Int32) (σ : mS) : Option (Int32) := rz y0
def f_siblings_52   (σ : mS) : Option (Int32) := f_siblings_53 ((0:Int32)) σ
def f_siblings_48   (σ : mS) : Option (Int32) := f_siblings_53 ((1:Int32)) σ
def f_siblings_24  (x1 : Int32) (x2 : Int32) (σ : mS) : Option (Int32) := (rd σ 7 x1).bind (fun v1 => if v1 < (0:Int32) then (f_siblings_52 σ) else ((rd σ 7 x1).bind (fun v2 => (rd σ 7 x2).bind (fun v3 => if v2 = v3 then (f_siblings_48 σ) else (f_siblings_52 σ)))))
def f_siblings (x1 : Int32) (x2 : Int32) (σ : mS) : Option (Int32) := (rd σ 6 x1).bind (fun v1 => if v1 < (0:Int32) then (f_siblings_24 (x1) (x2) σ) else ((rd σ 6 x1).bind (fun v2 => (rd σ 6 x2).bind (fun v3 => if v2 = v3 then (f_siblings_48 σ) else (f_siblings_24 (x1) (x2) σ)))))
set_option maxRecDepth 20000 in
set_option maxHeartbeats 4000000 in
theorem N_siblings_53 {p : Program} {l : Launch} {e : Env} {s : State} {m : MethodId} {args : Array Value} {below : List Frame} {meth : Method} {c : Code} {D : mD} {mb : Nat}   {y0 : Int32} {σ : mS} {ls : Array Slot} {r : Int32} (X : mX p s m args meth c cX12_siblings 3 (some .boolean) D) (hP : mP D mb σ s.heap)  (hl : lv_has ls 3 [(0, .ref mb)]) (h : f_siblings_53  y0 σ = some r) : mWr p l e 0 0 s m args below meth c (some (.int r)) (F0 m 53 ls [.int y0]) := by
  have hx := X.1
  have hb := X.2.1
  have hown := X.2.2.2.1
  have hts := X.2.2.2.2.1
  have h : (rz y0) = some r := h
  obtain ⟨hz, rfl⟩ := rz_spec h
  exact m_rz X hz dX12_siblings_53
set_option maxRecDepth 20000 in
set_option maxHeartbeats 4000000 in
theorem N_siblings_52 {p : Program} {l : Launch} {e : Env} {s : State} {m : MethodId} {args : Array Value} {below : List Frame} {meth : Method} {c : Code} {D : mD} {mb : Nat}    {σ : mS} {ls : Array Slot} {r : Int32} (X : mX p s m args meth c cX12_siblings 3 (some .boolean) D) (hP : mP D mb σ s.heap)  (hl : lv_has ls 3 [(0, .ref mb)]) (h : f_siblings_52   σ = some r) : mWr p l e 0 0 s m args below meth c (some (.int r)) (F0 m 52 ls []) := by
  have hx := X.1
  have hb := X.2.1
  have hown := X.2.2.2.1
  have hts := X.2.2.2.2.1
  have h : (f_siblings_53 ((0:Int32)) σ) = some r := h
  refine lv_iconst (v := (0:Int32)) hx hb dX12_siblings_52 (by decide) ?_
  exact N_siblings_53 X hP (lv_sub hl [0] rfl) h
set_option maxRecDepth 20000 in
set_option maxHeartbeats 4000000 in
theorem N_siblings_48 {p : Program} {l : Launch} {e : Env} {s : State} {m : MethodId} {args : Array Value} {below : List Frame} {meth : Method} {c : Code} {D : mD} {mb : Nat}    {σ : mS} {ls : Array Slot} {r : Int32} (X : mX p s m args meth c cX12_siblings 3 (some .boolean) D) (hP : mP D mb σ s.heap)  (hl : lv_has ls 3 [(0, .ref mb)]) (h : f_siblings_48   σ = some r) : mWr p l e 0 0 s m args below meth c (some (.int r)) (F0 m 48 ls []) := by
  have hx := X.1
  have hb := X.2.1
  have hown := X.2.2.2.1
  have hts := X.2.2.2.2.1
  have h : (f_siblings_53 ((1:Int32)) σ) = some r := h
  refine lv_iconst (v := (1:Int32)) hx hb dX12_siblings_48 (by decide) ?_
  refine lv_goto (tgt := 53) hx hb dX12_siblings_49 rfl ?_
  exact N_siblings_53 X hP (lv_sub hl [0] rfl) h
set_option maxRecDepth 20000 in
set_option maxHeartbeats 4000000 in
theorem N_siblings_24 {p : Program} {l : Launch} {e : Env} {s : State} {m : MethodId} {args : Array Value} {below : List Frame} {meth : Method} {c : Code} {D : mD} {mb : Nat}   {x1 : Int32} {x2 : Int32} {σ : mS} {ls : Array Slot} {r : Int32} (X : mX p s m args meth c cX12_siblings 3 (some .boolean) D) (hP : mP D mb σ s.heap)  (hl : lv_has ls 3 [(0, .ref mb), (1, .int x1), (2, .int x2)]) (h : f_siblings_24  x1 x2 σ = some r) : mWr p l e 0 0 s m args below meth c (some (.int r)) (F0 m 24 ls []) := by
  have hx := X.1
  have hb := X.2.1
  have hown := X.2.2.2.1
  have hts := X.2.2.2.2.1
  have h : ((rd σ 7 x1).bind (fun v1 => if v1 < (0:Int32) then (f_siblings_52 σ) else ((rd σ 7 x1).bind (fun v2 => (rd σ 7 x2).bind (fun v3 => if v2 = v3 then (f_siblings_48 σ) else (f_siblings_52 σ)))))) = some r := h
  refine lv_aload_n hx hb dX12_siblings_24 rfl (lv_at hl 0 rfl) ?_
  refine mg_host X hP dX12_siblings_25 ?_
  refine lv_iload_n hx hb dX12_siblings_28 rfl (lv_at hl 1 rfl) ?_
  obtain ⟨v1, hv1, h⟩ := ob h
  refine m_ald X hP hv1 dX12_siblings_29 ?_
  refine lv_if_lt (tgt := 52) hx hb dX12_siblings_30 rfl (fun hc => ?_) (fun hc => ?_)
  · have h := ip hc h
    exact N_siblings_52 X hP (lv_sub hl [0] rfl) h
  · have h := ine hc h
    refine lv_aload_n hx hb dX12_siblings_33 rfl (lv_at hl 0 rfl) ?_
    refine mg_host X hP dX12_siblings_34 ?_
    refine lv_iload_n hx hb dX12_siblings_37 rfl (lv_at hl 1 rfl) ?_
    obtain ⟨v2, hv2, h⟩ := ob h
    refine m_ald X hP hv2 dX12_siblings_38 ?_
    refine lv_aload_n hx hb dX12_siblings_39 rfl (lv_at hl 0 rfl) ?_
    refine mg_host X hP dX12_siblings_40 ?_
    refine lv_iload_n hx hb dX12_siblings_43 rfl (lv_at hl 2 rfl) ?_
    obtain ⟨v3, hv3, h⟩ := ob h
    refine m_ald X hP hv3 dX12_siblings_44 ?_
    refine lv_icmp_ne (tgt := 52) hx hb dX12_siblings_45 rfl (fun hc => ?_) (fun hc => ?_)
    · have h := ine hc h
      exact N_siblings_52 X hP (lv_sub hl [0] rfl) h
    · have h := ip hc h
      exact N_siblings_48 X hP (lv_sub hl [0] rfl) h
set_option maxRecDepth 20000 in
set_option maxHeartbeats 4000000 in
theorem K_siblings (l : Launch) (D : mD) (mb : Nat) (σ : mS) (x1 : Int32) (x2 : Int32) {r : Int32} (h : f_siblings x1 x2 σ = some r) : Met l yX12_siblings (Cond.code yX12_siblings cX12_siblings 3 (some .boolean) :: BG) (rM 0 0) (mPc D mb σ [.int x1, .int x2]) (mQr (some (.int r))) 0 0 (fun _ => False) := by
  refine Met.ofW (cc := cX12_siblings) (maxL := 3) (ret := (some .boolean)) (by decide) rfl ?_
  intro p e s m args below meth c s₁ B hml hv
  obtain ⟨rfl, hP, hK⟩ := hv
  have X := mX_of B hml rfl hK
  have hx := X.1
  have hb := X.2.1
  have hown := X.2.2.2.1
  have hts := X.2.2.2.2.1
  have hl := lv_entry (.ref mb :: [.int x1, .int x2]) (n := 3) (Nat.le_of_ble_eq_true rfl)
  rw [lg_entry_eq]
  generalize (lg_sl (.ref mb :: [.int x1, .int x2]) ++ List.replicate (3 - (lg_sl (.ref mb :: [.int x1, .int x2])).length) Slot.unset).toArray = ls at hl ⊢
  have hl : lv_has ls 3 [(0, .ref mb), (1, .int x1), (2, .int x2)] := hl
  show mWr p l e 0 0 s m (Value.ref mb :: [.int x1, .int x2]).toArray below meth c (some (.int r)) (F0 m 0 ls [])
  have h : ((rd σ 6 x1).bind (fun v1 => if v1 < (0:Int32) then (f_siblings_24 (x1) (x2) σ) else ((rd σ 6 x1).bind (fun v2 => (rd σ 6 x2).bind (fun v3 => if v2 = v3 then (f_siblings_48 σ) else (f_siblings_24 (x1) (x2) σ)))))) = some r := h
  refine lv_aload_n hx hb dX12_siblings_0 rfl (lv_at hl 0 rfl) ?_
  refine mg_parent X hP dX12_siblings_1 ?_
  refine lv_iload_n hx hb dX12_siblings_4 rfl (lv_at hl 1 rfl) ?_
  obtain ⟨v1, hv1, h⟩ := ob h
  refine m_ald X hP hv1 dX12_siblings_5 ?_
  refine lv_if_lt (tgt := 24) hx hb dX12_siblings_6 rfl (fun hc => ?_) (fun hc => ?_)
  · have h := ip hc h
    exact N_siblings_24 X hP (lv_sub hl [0, 1, 2] rfl) h
  · have h := ine hc h
    refine lv_aload_n hx hb dX12_siblings_9 rfl (lv_at hl 0 rfl) ?_
    refine mg_parent X hP dX12_siblings_10 ?_
    refine lv_iload_n hx hb dX12_siblings_13 rfl (lv_at hl 1 rfl) ?_
    obtain ⟨v2, hv2, h⟩ := ob h
    refine m_ald X hP hv2 dX12_siblings_14 ?_
    refine lv_aload_n hx hb dX12_siblings_15 rfl (lv_at hl 0 rfl) ?_
    refine mg_parent X hP dX12_siblings_16 ?_
    refine lv_iload_n hx hb dX12_siblings_19 rfl (lv_at hl 2 rfl) ?_
    obtain ⟨v3, hv3, h⟩ := ob h
    refine m_ald X hP hv3 dX12_siblings_20 ?_
    refine lv_icmp_eq (tgt := 48) hx hb dX12_siblings_21 rfl (fun hc => ?_) (fun hc => ?_)
    · have h := ip hc h
      exact N_siblings_48 X hP (lv_sub hl [0] rfl) h
    · have h := ine hc h
      exact N_siblings_24 X hP (lv_sub hl [0, 1, 2] rfl) h
theorem cl_siblings {p : Program} {l : Launch} {e : Env} {s : State} {m : MethodId} {args : Array Value} {below : List Frame} {meth : Method} {c : Code} {D : mD} {mb : Nat} {H : Heap} {locs : List Loc} {Q : State → Prop} {cc : ByteArray} {pc fR lR nL : Nat} {ls : Array Slot} {rest : List Value} {ret : Option FieldType} {σ : mS} (X : mX p s m args meth c cc nL ret D) (hP : mP D mb σ H) {x1 : Int32} {x2 : Int32} {r : Int32} (h : f_siblings x1 x2 σ = some r) (hr : 0 + 1 ≤ fR ∧ 8 + (3 + 11) + 0 ≤ lR) (hl : ls.size = nL) (hW : (rest.map fun v => v.category).sum ≤ 8) (hdg : decode cc pc = .ok (.invokevirtual 281, 3)) (kk : W p l e (rM fR lR) s m args below meth c H locs 0 0 Q (F0 m (pc + 3) ls (.int r :: rest))) : W p l e (rM fR lR) s m args below meth c H locs 0 0 Q (F0 m pc ls (.int x2 :: .int x1 :: .ref mb :: rest)) := m_cr (m_run (n := 2) X (K_siblings l D mb σ x1 x2 h) ⟨w_2055, w_2057, w_94, w_2058⟩ (hyX rfl (by decide +kernel)) rfl hr hP hl hW hdg rfl) kk
-- related(III)Z
def f_related_119  (y0 : Int32) (σ : mS) : Option (Int32) := rz y0
def f_related_118   (σ : mS) : Option (Int32) := f_related_119 ((0:Int32)) σ
def f_related_103  (x3 : Int32) (x4 : Int32) (σ : mS) : Option (Int32) := if x4 = x3 then (if x4 < (0:Int32) then (f_related_118 σ) else (f_related_119 ((1:Int32)) σ)) else (f_related_118 σ)
def f_related_68  : Nat → Int32 → Int32 → Int32 → mS → Option (Int32)
  | 0, _, _, _, _ => none
  | n + 1, x1, x3, x4, σ => if x1 = (0:Int32) then (if x4 < (0:Int32) then (f_related_103 (x3) (x4) σ) else (if x4 = x3 then (f_related_103 (x3) (x4) σ) else (if x4 = (σ.2 71) then (f_related_103 (x3) (x4) σ) else ((f_up (x4) σ).bind (fun v1 => f_related_68 n (x1) (x3) (v1) σ))))) else (f_related_103 (x3) (x4) σ)
def f_related_60  (y0 : Int32) (σ : mS) : Option (Int32) := rz y0
def f_related_29  (x1 : Int32) (y0 : Int32) (σ : mS) : Option (Int32) := if x1 = (2:Int32) then (if y0 = (1:Int32) then (f_related_60 ((1:Int32)) σ) else (f_related_60 ((0:Int32)) σ)) else (if y0 ≤ (0:Int32) then (f_related_60 ((0:Int32)) σ) else (f_related_60 ((1:Int32)) σ))
def f_related (x1 : Int32) (x2 : Int32) (x3 : Int32) (σ : mS) : Option (Int32) := if x1 ≤ (1:Int32) then ((f_up (x2) σ).bind (fun v1 => f_related_68 4000 (x1) (x3) (v1) σ)) else ((f_siblings (x2) (x3) σ).bind (fun v2 => if v2 = (0:Int32) then (f_related_29 (x1) ((0:Int32)) σ) else ((f_placeOf (x2) σ).bind (fun v3 => (f_placeOf (x3) σ).bind (fun v4 => f_related_29 (x1) ((v3 - v4)) σ)))))
set_option maxRecDepth 20000 in
set_option maxHeartbeats 4000000 in
theorem N_related_119 {p : Program} {l : Launch} {e : Env} {s : State} {m : MethodId} {args : Array Value} {below : List Frame} {meth : Method} {c : Code} {D : mD} {mb : Nat}   {y0 : Int32} {σ : mS} {ls : Array Slot} {r : Int32} (X : mX p s m args meth c cX12_related 5 (some .boolean) D) (hP : mP D mb σ s.heap)  (hl : lv_has ls 5 [(0, .ref mb)]) (h : f_related_119  y0 σ = some r) : mWr p l e 1 22 s m args below meth c (some (.int r)) (F0 m 119 ls [.int y0]) := by
  have hx := X.1
  have hb := X.2.1
  have hown := X.2.2.2.1
  have hts := X.2.2.2.2.1
  have h : (rz y0) = some r := h
  obtain ⟨hz, rfl⟩ := rz_spec h
  exact m_rz X hz dX12_related_119
set_option maxRecDepth 20000 in
set_option maxHeartbeats 4000000 in
theorem N_related_118 {p : Program} {l : Launch} {e : Env} {s : State} {m : MethodId} {args : Array Value} {below : List Frame} {meth : Method} {c : Code} {D : mD} {mb : Nat}    {σ : mS} {ls : Array Slot} {r : Int32} (X : mX p s m args meth c cX12_related 5 (some .boolean) D) (hP : mP D mb σ s.heap)  (hl : lv_has ls 5 [(0, .ref mb)]) (h : f_related_118   σ = some r) : mWr p l e 1 22 s m args below meth c (some (.int r)) (F0 m 118 ls []) := by
  have hx := X.1
  have hb := X.2.1
  have hown := X.2.2.2.1
  have hts := X.2.2.2.2.1
  have h : (f_related_119 ((0:Int32)) σ) = some r := h
  refine lv_iconst (v := (0:Int32)) hx hb dX12_related_118 (by decide) ?_
  exact N_related_119 X hP (lv_sub hl [0] rfl) h
set_option maxRecDepth 20000 in
set_option maxHeartbeats 4000000 in
theorem N_related_103 {p : Program} {l : Launch} {e : Env} {s : State} {m : MethodId} {args : Array Value} {below : List Frame} {meth : Method} {c : Code} {D : mD} {mb : Nat}   {x3 : Int32} {x4 : Int32} {σ : mS} {ls : Array Slot} {r : Int32} (X : mX p s m args meth c cX12_related 5 (some .boolean) D) (hP : mP D mb σ s.heap)  (hl : lv_has ls 5 [(0, .ref mb), (3, .int x3), (4, .int x4)]) (h : f_related_103  x3 x4 σ = some r) : mWr p l e 1 22 s m args below meth c (some (.int r)) (F0 m 103 ls []) := by
  have hx := X.1
  have hb := X.2.1
  have hown := X.2.2.2.1
  have hts := X.2.2.2.2.1
  have h : (if x4 = x3 then (if x4 < (0:Int32) then (f_related_118 σ) else (f_related_119 ((1:Int32)) σ)) else (f_related_118 σ)) = some r := h
  refine lv_iload hx hb dX12_related_103 (lv_at hl 2 rfl) ?_
  refine lv_iload_n hx hb dX12_related_105 rfl (lv_at hl 1 rfl) ?_
  refine lv_icmp_ne (tgt := 118) hx hb dX12_related_106 rfl (fun hc => ?_) (fun hc => ?_)
  · have h := ine hc h
    exact N_related_118 X hP (lv_sub hl [0] rfl) h
  · have h := ip hc h
    refine lv_iload hx hb dX12_related_109 (lv_at hl 2 rfl) ?_
    refine lv_if_lt (tgt := 118) hx hb dX12_related_111 rfl (fun hc => ?_) (fun hc => ?_)
    · have h := ip hc h
      exact N_related_118 X hP (lv_sub hl [0] rfl) h
    · have h := ine hc h
      refine lv_iconst (v := (1:Int32)) hx hb dX12_related_114 (by decide) ?_
      refine lv_goto (tgt := 119) hx hb dX12_related_115 rfl ?_
      exact N_related_119 X hP (lv_sub hl [0] rfl) h
set_option maxRecDepth 20000 in
set_option maxHeartbeats 4000000 in
theorem N_related_68 {p : Program} {l : Launch} {e : Env} {s : State} {m : MethodId} {args : Array Value} {below : List Frame} {meth : Method} {c : Code} {D : mD} {mb : Nat}  {n : Nat} {x1 : Int32} {x3 : Int32} {x4 : Int32} {σ : mS} {ls : Array Slot} {r : Int32} (X : mX p s m args meth c cX12_related 5 (some .boolean) D) (hP : mP D mb σ s.heap)  (hl : lv_has ls 5 [(0, .ref mb), (1, .int x1), (3, .int x3), (4, .int x4)]) (h : f_related_68  n x1 x3 x4 σ = some r) : mWr p l e 1 22 s m args below meth c (some (.int r)) (F0 m 68 ls []) := by
  have hx := X.1
  have hb := X.2.1
  have hown := X.2.2.2.1
  have hts := X.2.2.2.2.1
  induction n generalizing x1 x3 x4 ls with
  | zero => exact absurd (show none = some r from h) (by simp)
  | succ n ih =>
    have h : (if x1 = (0:Int32) then (if x4 < (0:Int32) then (f_related_103 (x3) (x4) σ) else (if x4 = x3 then (f_related_103 (x3) (x4) σ) else (if x4 = (σ.2 71) then (f_related_103 (x3) (x4) σ) else ((f_up (x4) σ).bind (fun v1 => f_related_68 n (x1) (x3) (v1) σ))))) else (f_related_103 (x3) (x4) σ)) = some r := h
    refine lv_iload_n hx hb dX12_related_68 rfl (lv_at hl 1 rfl) ?_
    refine lv_if_ne (tgt := 103) hx hb dX12_related_69 rfl (fun hc => ?_) (fun hc => ?_)
    · have h := ine hc h
      exact N_related_103 X hP (lv_sub hl [0, 2, 3] rfl) h
    · have h := ip hc h
      refine lv_iload hx hb dX12_related_72 (lv_at hl 3 rfl) ?_
      refine lv_if_lt (tgt := 103) hx hb dX12_related_74 rfl (fun hc => ?_) (fun hc => ?_)
      · have h := ip hc h
        exact N_related_103 X hP (lv_sub hl [0, 2, 3] rfl) h
      · have h := ine hc h
        refine lv_iload hx hb dX12_related_77 (lv_at hl 3 rfl) ?_
        refine lv_iload_n hx hb dX12_related_79 rfl (lv_at hl 2 rfl) ?_
        refine lv_icmp_eq (tgt := 103) hx hb dX12_related_80 rfl (fun hc => ?_) (fun hc => ?_)
        · have h := ip hc h
          exact N_related_103 X hP (lv_sub hl [0, 2, 3] rfl) h
        · have h := ine hc h
          refine lv_iload hx hb dX12_related_83 (lv_at hl 3 rfl) ?_
          refine lv_aload_n hx hb dX12_related_85 rfl (lv_at hl 0 rfl) ?_
          refine mg_tree X hP dX12_related_86 ?_
          refine lv_icmp_eq (tgt := 103) hx hb dX12_related_89 rfl (fun hc => ?_) (fun hc => ?_)
          · have h := ip hc h
            exact N_related_103 X hP (lv_sub hl [0, 2, 3] rfl) h
          · have h := ine hc h
            refine lv_aload_n hx hb dX12_related_92 rfl (lv_at hl 0 rfl) ?_
            refine lv_iload hx hb dX12_related_93 (lv_at hl 3 rfl) ?_
            obtain ⟨v1, hv1, h⟩ := ob h
            refine cl_up X hP hv1 ⟨Nat.le_of_ble_eq_true rfl, Nat.le_of_ble_eq_true rfl⟩ hl.1 (Nat.le_of_ble_eq_true rfl) dX12_related_95 ?_
            refine lv_istore hx hb dX12_related_98 hl (Nat.le_of_ble_eq_true rfl) rfl (fun ls (hl : lv_has ls 5 [(4, .int v1), (0, .ref mb), (1, .int x1), (3, .int x3)]) => ?_)
            refine lv_goto (tgt := 68) hx hb dX12_related_100 rfl ?_
            exact ih (lv_sub hl [1, 2, 3, 0] rfl) h
set_option maxRecDepth 20000 in
set_option maxHeartbeats 4000000 in
theorem N_related_60 {p : Program} {l : Launch} {e : Env} {s : State} {m : MethodId} {args : Array Value} {below : List Frame} {meth : Method} {c : Code} {D : mD} {mb : Nat}   {y0 : Int32} {σ : mS} {ls : Array Slot} {r : Int32} (X : mX p s m args meth c cX12_related 5 (some .boolean) D) (hP : mP D mb σ s.heap)  (hl : lv_has ls 5 [(0, .ref mb)]) (h : f_related_60  y0 σ = some r) : mWr p l e 1 22 s m args below meth c (some (.int r)) (F0 m 60 ls [.int y0]) := by
  have hx := X.1
  have hb := X.2.1
  have hown := X.2.2.2.1
  have hts := X.2.2.2.2.1
  have h : (rz y0) = some r := h
  obtain ⟨hz, rfl⟩ := rz_spec h
  exact m_rz X hz dX12_related_60
set_option maxRecDepth 20000 in
set_option maxHeartbeats 4000000 in
theorem N_related_29 {p : Program} {l : Launch} {e : Env} {s : State} {m : MethodId} {args : Array Value} {below : List Frame} {meth : Method} {c : Code} {D : mD} {mb : Nat}   {x1 : Int32} {y0 : Int32} {σ : mS} {ls : Array Slot} {r : Int32} (X : mX p s m args meth c cX12_related 5 (some .boolean) D) (hP : mP D mb σ s.heap)  (hl : lv_has ls 5 [(0, .ref mb), (1, .int x1)]) (h : f_related_29  x1 y0 σ = some r) : mWr p l e 1 22 s m args below meth c (some (.int r)) (F0 m 29 ls [.int y0]) := by
  have hx := X.1
  have hb := X.2.1
  have hown := X.2.2.2.1
  have hts := X.2.2.2.2.1
  have h : (if x1 = (2:Int32) then (if y0 = (1:Int32) then (f_related_60 ((1:Int32)) σ) else (f_related_60 ((0:Int32)) σ)) else (if y0 ≤ (0:Int32) then (f_related_60 ((0:Int32)) σ) else (f_related_60 ((1:Int32)) σ))) = some r := h
  refine lv_istore hx hb dX12_related_29 hl (Nat.le_of_ble_eq_true rfl) rfl (fun ls (hl : lv_has ls 5 [(4, .int y0), (0, .ref mb), (1, .int x1)]) => ?_)
  refine lv_iload_n hx hb dX12_related_31 rfl (lv_at hl 2 rfl) ?_
  refine lv_iconst (v := (2:Int32)) hx hb dX12_related_32 (by decide) ?_
  refine lv_icmp_ne (tgt := 50) hx hb dX12_related_33 rfl (fun hc => ?_) (fun hc => ?_)
  · have h := ine hc h
    refine lv_iload hx hb dX12_related_50 (lv_at hl 0 rfl) ?_
    refine lv_if_le (tgt := 59) hx hb dX12_related_52 rfl (fun hc => ?_) (fun hc => ?_)
    · have h := ip hc h
      refine lv_iconst (v := (0:Int32)) hx hb dX12_related_59 (by decide) ?_
      exact N_related_60 X hP (lv_sub hl [1] rfl) h
    · have h := ine hc h
      refine lv_iconst (v := (1:Int32)) hx hb dX12_related_55 (by decide) ?_
      refine lv_goto (tgt := 60) hx hb dX12_related_56 rfl ?_
      exact N_related_60 X hP (lv_sub hl [1] rfl) h
  · have h := ip hc h
    refine lv_iload hx hb dX12_related_36 (lv_at hl 0 rfl) ?_
    refine lv_iconst (v := (1:Int32)) hx hb dX12_related_38 (by decide) ?_
    refine lv_icmp_ne (tgt := 46) hx hb dX12_related_39 rfl (fun hc => ?_) (fun hc => ?_)
    · have h := ine hc h
      refine lv_iconst (v := (0:Int32)) hx hb dX12_related_46 (by decide) ?_
      refine lv_goto (tgt := 60) hx hb dX12_related_47 rfl ?_
      exact N_related_60 X hP (lv_sub hl [1] rfl) h
    · have h := ip hc h
      refine lv_iconst (v := (1:Int32)) hx hb dX12_related_42 (by decide) ?_
      refine lv_goto (tgt := 60) hx hb dX12_related_43 rfl ?_
      exact N_related_60 X hP (lv_sub hl [1] rfl) h
set_option maxRecDepth 20000 in
set_option maxHeartbeats 4000000 in
theorem K_related (l : Launch) (D : mD) (mb : Nat) (σ : mS) (x1 : Int32) (x2 : Int32) (x3 : Int32) {r : Int32} (h : f_related x1 x2 x3 σ = some r) : Met l yX12_related (Cond.code yX12_related cX12_related 5 (some .boolean) :: BG) (rM 1 22) (mPc D mb σ [.int x1, .int x2, .int x3]) (mQr (some (.int r))) 0 0 (fun _ => False) := by
  refine Met.ofW (cc := cX12_related) (maxL := 5) (ret := (some .boolean)) (by decide) rfl ?_
  intro p e s m args below meth c s₁ B hml hv
  obtain ⟨rfl, hP, hK⟩ := hv
  have X := mX_of B hml rfl hK
  have hx := X.1
  have hb := X.2.1
  have hown := X.2.2.2.1
  have hts := X.2.2.2.2.1
  have hl := lv_entry (.ref mb :: [.int x1, .int x2, .int x3]) (n := 5) (Nat.le_of_ble_eq_true rfl)
  rw [lg_entry_eq]
  generalize (lg_sl (.ref mb :: [.int x1, .int x2, .int x3]) ++ List.replicate (5 - (lg_sl (.ref mb :: [.int x1, .int x2, .int x3])).length) Slot.unset).toArray = ls at hl ⊢
  have hl : lv_has ls 5 [(0, .ref mb), (1, .int x1), (2, .int x2), (3, .int x3)] := hl
  show mWr p l e 1 22 s m (Value.ref mb :: [.int x1, .int x2, .int x3]).toArray below meth c (some (.int r)) (F0 m 0 ls [])
  have h : (if x1 ≤ (1:Int32) then ((f_up (x2) σ).bind (fun v1 => f_related_68 4000 (x1) (x3) (v1) σ)) else ((f_siblings (x2) (x3) σ).bind (fun v2 => if v2 = (0:Int32) then (f_related_29 (x1) ((0:Int32)) σ) else ((f_placeOf (x2) σ).bind (fun v3 => (f_placeOf (x3) σ).bind (fun v4 => f_related_29 (x1) ((v3 - v4)) σ)))))) = some r := h
  refine lv_iload_n hx hb dX12_related_0 rfl (lv_at hl 1 rfl) ?_
  refine lv_iconst (v := (1:Int32)) hx hb dX12_related_1 (by decide) ?_
  refine lv_icmp_le (tgt := 61) hx hb dX12_related_2 rfl (fun hc => ?_) (fun hc => ?_)
  · have h := ip hc h
    refine lv_aload_n hx hb dX12_related_61 rfl (lv_at hl 0 rfl) ?_
    refine lv_iload_n hx hb dX12_related_62 rfl (lv_at hl 2 rfl) ?_
    obtain ⟨v1, hv1, h⟩ := ob h
    refine cl_up X hP hv1 ⟨Nat.le_of_ble_eq_true rfl, Nat.le_of_ble_eq_true rfl⟩ hl.1 (Nat.le_of_ble_eq_true rfl) dX12_related_63 ?_
    refine lv_istore hx hb dX12_related_66 hl (Nat.le_of_ble_eq_true rfl) rfl (fun ls (hl : lv_has ls 5 [(4, .int v1), (0, .ref mb), (1, .int x1), (2, .int x2), (3, .int x3)]) => ?_)
    exact N_related_68 X hP (lv_sub hl [1, 2, 4, 0] rfl) h
  · have h := ine hc h
    refine lv_aload_n hx hb dX12_related_5 rfl (lv_at hl 0 rfl) ?_
    refine lv_iload_n hx hb dX12_related_6 rfl (lv_at hl 2 rfl) ?_
    refine lv_iload_n hx hb dX12_related_7 rfl (lv_at hl 3 rfl) ?_
    obtain ⟨v2, hv2, h⟩ := ob h
    refine cl_siblings X hP hv2 ⟨Nat.le_of_ble_eq_true rfl, Nat.le_of_ble_eq_true rfl⟩ hl.1 (Nat.le_of_ble_eq_true rfl) dX12_related_8 ?_
    refine lv_if_eq (tgt := 28) hx hb dX12_related_11 rfl (fun hc => ?_) (fun hc => ?_)
    · have h := ip hc h
      refine lv_iconst (v := (0:Int32)) hx hb dX12_related_28 (by decide) ?_
      exact N_related_29 X hP (lv_sub hl [0, 1] rfl) h
    · have h := ine hc h
      refine lv_aload_n hx hb dX12_related_14 rfl (lv_at hl 0 rfl) ?_
      refine lv_iload_n hx hb dX12_related_15 rfl (lv_at hl 2 rfl) ?_
      obtain ⟨v3, hv3, h⟩ := ob h
      refine cl_placeOf X hP hv3 ⟨Nat.le_of_ble_eq_true rfl, Nat.le_of_ble_eq_true rfl⟩ hl.1 (Nat.le_of_ble_eq_true rfl) dX12_related_16 ?_
      refine lv_aload_n hx hb dX12_related_19 rfl (lv_at hl 0 rfl) ?_
      refine lv_iload_n hx hb dX12_related_20 rfl (lv_at hl 3 rfl) ?_
      obtain ⟨v4, hv4, h⟩ := ob h
      refine cl_placeOf X hP hv4 ⟨Nat.le_of_ble_eq_true rfl, Nat.le_of_ble_eq_true rfl⟩ hl.1 (Nat.le_of_ble_eq_true rfl) dX12_related_21 ?_
      refine lv_isub hx hb dX12_related_24 ?_
      refine lv_goto (tgt := 29) hx hb dX12_related_25 rfl ?_
      exact N_related_29 X hP (lv_sub hl [0, 1] rfl) h
theorem cl_related {p : Program} {l : Launch} {e : Env} {s : State} {m : MethodId} {args : Array Value} {below : List Frame} {meth : Method} {c : Code} {D : mD} {mb : Nat} {H : Heap} {locs : List Loc} {Q : State → Prop} {cc : ByteArray} {pc fR lR nL : Nat} {ls : Array Slot} {rest : List Value} {ret : Option FieldType} {σ : mS} (X : mX p s m args meth c cc nL ret D) (hP : mP D mb σ H) {x1 : Int32} {x2 : Int32} {x3 : Int32} {r : Int32} (h : f_related x1 x2 x3 σ = some r) (hr : 1 + 1 ≤ fR ∧ 8 + (5 + 11) + 22 ≤ lR) (hl : ls.size = nL) (hW : (rest.map fun v => v.category).sum ≤ 8) (hdg : decode cc pc = .ok (.invokevirtual 291, 3)) (kk : W p l e (rM fR lR) s m args below meth c H locs 0 0 Q (F0 m (pc + 3) ls (.int r :: rest))) : W p l e (rM fR lR) s m args below meth c H locs 0 0 Q (F0 m pc ls (.int x3 :: .int x2 :: .int x1 :: .ref mb :: rest)) := m_cr (m_run (n := 3) X (K_related l D mb σ x1 x2 x3 h) ⟨w_2051, w_2053, w_93, w_2054⟩ (hyX rfl (by decide +kernel)) rfl hr hP hl hW hdg rfl) kk
-- nth(III)Z
def f_nth_41  (y0 : Int32)  : Option (Int32) := rz y0
def f_nth_40    : Option (Int32) := f_nth_41 ((0:Int32))
def f_nth (x1 : Int32) (x2 : Int32) (x3 : Int32)  : Option (Int32) := if x1 = (0:Int32) then (if (x3 - x2) = (0:Int32) then (f_nth_41 ((1:Int32))) else (f_nth_41 ((0:Int32)))) else ((rm (x3 - x2) x1).bind (fun v1 => if v1 = (0:Int32) then ((dv (x3 - x2) x1).bind (fun v2 => if v2 < (0:Int32) then (f_nth_40) else (f_nth_41 ((1:Int32))))) else (f_nth_40)))
set_option maxRecDepth 20000 in
set_option maxHeartbeats 4000000 in
theorem N_nth_41 {p : Program} {l : Launch} {e : Env} {s : State} {m : MethodId} {args : Array Value} {below : List Frame} {meth : Method} {c : Code} {D : mD} {mb : Nat}   {y0 : Int32} {σ : mS} {ls : Array Slot} {r : Int32} (X : mX p s m args meth c cX12_nth 5 (some .boolean) D) (hP : mP D mb σ s.heap)  (hl : lv_has ls 5 [(0, .ref mb)]) (h : f_nth_41  y0 = some r) : mWr p l e 0 0 s m args below meth c (some (.int r)) (F0 m 41 ls [.int y0]) := by
  have hx := X.1
  have hb := X.2.1
  have hown := X.2.2.2.1
  have hts := X.2.2.2.2.1
  have h : (rz y0) = some r := h
  obtain ⟨hz, rfl⟩ := rz_spec h
  exact m_rz X hz dX12_nth_41
set_option maxRecDepth 20000 in
set_option maxHeartbeats 4000000 in
theorem N_nth_40 {p : Program} {l : Launch} {e : Env} {s : State} {m : MethodId} {args : Array Value} {below : List Frame} {meth : Method} {c : Code} {D : mD} {mb : Nat}    {σ : mS} {ls : Array Slot} {r : Int32} (X : mX p s m args meth c cX12_nth 5 (some .boolean) D) (hP : mP D mb σ s.heap)  (hl : lv_has ls 5 [(0, .ref mb)]) (h : f_nth_40   = some r) : mWr p l e 0 0 s m args below meth c (some (.int r)) (F0 m 40 ls []) := by
  have hx := X.1
  have hb := X.2.1
  have hown := X.2.2.2.1
  have hts := X.2.2.2.2.1
  have h : (f_nth_41 ((0:Int32))) = some r := h
  refine lv_iconst (v := (0:Int32)) hx hb dX12_nth_40 (by decide) ?_
  exact N_nth_41 X hP (lv_sub hl [0] rfl) h
set_option maxRecDepth 20000 in
set_option maxHeartbeats 4000000 in
theorem K_nth (l : Launch) (D : mD) (mb : Nat) (σ : mS) (x1 : Int32) (x2 : Int32) (x3 : Int32) {r : Int32} (h : f_nth x1 x2 x3 = some r) : Met l yX12_nth (Cond.code yX12_nth cX12_nth 5 (some .boolean) :: BG) (rM 0 0) (mPc D mb σ [.int x1, .int x2, .int x3]) (mQr (some (.int r))) 0 0 (fun _ => False) := by
  refine Met.ofW (cc := cX12_nth) (maxL := 5) (ret := (some .boolean)) (by decide) rfl ?_
  intro p e s m args below meth c s₁ B hml hv
  obtain ⟨rfl, hP, hK⟩ := hv
  have X := mX_of B hml rfl hK
  have hx := X.1
  have hb := X.2.1
  have hown := X.2.2.2.1
  have hts := X.2.2.2.2.1
  have hl := lv_entry (.ref mb :: [.int x1, .int x2, .int x3]) (n := 5) (Nat.le_of_ble_eq_true rfl)
  rw [lg_entry_eq]
  generalize (lg_sl (.ref mb :: [.int x1, .int x2, .int x3]) ++ List.replicate (5 - (lg_sl (.ref mb :: [.int x1, .int x2, .int x3])).length) Slot.unset).toArray = ls at hl ⊢
  have hl : lv_has ls 5 [(0, .ref mb), (1, .int x1), (2, .int x2), (3, .int x3)] := hl
  show mWr p l e 0 0 s m (Value.ref mb :: [.int x1, .int x2, .int x3]).toArray below meth c (some (.int r)) (F0 m 0 ls [])
  have h : (if x1 = (0:Int32) then (if (x3 - x2) = (0:Int32) then (f_nth_41 ((1:Int32))) else (f_nth_41 ((0:Int32)))) else ((rm (x3 - x2) x1).bind (fun v1 => if v1 = (0:Int32) then ((dv (x3 - x2) x1).bind (fun v2 => if v2 < (0:Int32) then (f_nth_40) else (f_nth_41 ((1:Int32))))) else (f_nth_40)))) = some r := h
  refine lv_iload_n hx hb dX12_nth_0 rfl (lv_at hl 3 rfl) ?_
  refine lv_iload_n hx hb dX12_nth_1 rfl (lv_at hl 2 rfl) ?_
  refine lv_isub hx hb dX12_nth_2 ?_
  refine lv_istore hx hb dX12_nth_3 hl (Nat.le_of_ble_eq_true rfl) rfl (fun ls (hl : lv_has ls 5 [(4, .int (x3 - x2)), (0, .ref mb), (1, .int x1), (2, .int x2), (3, .int x3)]) => ?_)
  refine lv_iload_n hx hb dX12_nth_5 rfl (lv_at hl 2 rfl) ?_
  refine lv_if_ne (tgt := 22) hx hb dX12_nth_6 rfl (fun hc => ?_) (fun hc => ?_)
  · have h := ine hc h
    refine lv_iload hx hb dX12_nth_22 (lv_at hl 0 rfl) ?_
    refine lv_iload_n hx hb dX12_nth_24 rfl (lv_at hl 2 rfl) ?_
    obtain ⟨v1, hv1, h⟩ := ob h
    obtain ⟨hnv1, hev1⟩ := rm_spec hv1
    refine lv_irem hx hb dX12_nth_25 hnv1 ?_
    rw [hev1]
    refine lv_if_ne (tgt := 40) hx hb dX12_nth_26 rfl (fun hc => ?_) (fun hc => ?_)
    · have h := ine hc h
      exact N_nth_40 X hP (lv_sub hl [1] rfl) h
    · have h := ip hc h
      refine lv_iload hx hb dX12_nth_29 (lv_at hl 0 rfl) ?_
      refine lv_iload_n hx hb dX12_nth_31 rfl (lv_at hl 2 rfl) ?_
      obtain ⟨v2, hv2, h⟩ := ob h
      obtain ⟨hnv2, hev2⟩ := dv_spec hv2
      refine lv_idiv hx hb dX12_nth_32 hnv2 ?_
      rw [hev2]
      refine lv_if_lt (tgt := 40) hx hb dX12_nth_33 rfl (fun hc => ?_) (fun hc => ?_)
      · have h := ip hc h
        exact N_nth_40 X hP (lv_sub hl [1] rfl) h
      · have h := ine hc h
        refine lv_iconst (v := (1:Int32)) hx hb dX12_nth_36 (by decide) ?_
        refine lv_goto (tgt := 41) hx hb dX12_nth_37 rfl ?_
        exact N_nth_41 X hP (lv_sub hl [1] rfl) h
  · have h := ip hc h
    refine lv_iload hx hb dX12_nth_9 (lv_at hl 0 rfl) ?_
    refine lv_if_ne (tgt := 18) hx hb dX12_nth_11 rfl (fun hc => ?_) (fun hc => ?_)
    · have h := ine hc h
      refine lv_iconst (v := (0:Int32)) hx hb dX12_nth_18 (by decide) ?_
      refine lv_goto (tgt := 41) hx hb dX12_nth_19 rfl ?_
      exact N_nth_41 X hP (lv_sub hl [1] rfl) h
    · have h := ip hc h
      refine lv_iconst (v := (1:Int32)) hx hb dX12_nth_14 (by decide) ?_
      refine lv_goto (tgt := 41) hx hb dX12_nth_15 rfl ?_
      exact N_nth_41 X hP (lv_sub hl [1] rfl) h
theorem cl_nth {p : Program} {l : Launch} {e : Env} {s : State} {m : MethodId} {args : Array Value} {below : List Frame} {meth : Method} {c : Code} {D : mD} {mb : Nat} {H : Heap} {locs : List Loc} {Q : State → Prop} {cc : ByteArray} {pc fR lR nL : Nat} {ls : Array Slot} {rest : List Value} {ret : Option FieldType} {σ : mS} (X : mX p s m args meth c cc nL ret D) (hP : mP D mb σ H) {x1 : Int32} {x2 : Int32} {x3 : Int32} {r : Int32} (h : f_nth x1 x2 x3 = some r) (hr : 0 + 1 ≤ fR ∧ 8 + (5 + 11) + 0 ≤ lR) (hl : ls.size = nL) (hW : (rest.map fun v => v.category).sum ≤ 8) (hdg : decode cc pc = .ok (.invokevirtual 294, 3)) (kk : W p l e (rM fR lR) s m args below meth c H locs 0 0 Q (F0 m (pc + 3) ls (.int r :: rest))) : W p l e (rM fR lR) s m args below meth c H locs 0 0 Q (F0 m pc ls (.int x3 :: .int x2 :: .int x1 :: .ref mb :: rest)) := m_cr (m_run (n := 3) X (K_nth l D mb σ x1 x2 x3 h) ⟨w_2043, w_2045, w_91, w_2046⟩ (hyX rfl (by decide +kernel)) rfl hr hP hl hW hdg rfl) kk
-- hasIn(III)Z
def f_hasIn_48 (k6 : Int32 → Int32 → Int32 → Int32 → Int32 → Option (Int32)) (x1 : Int32) (x2 : Int32) (x3 : Int32) (x5 : Int32) (y0 : Int32) (y1 : Int32) (σ : mS) : Option (Int32) := k6 (x1) (x2) (x3) ((y0 ||| y1)) ((x5 + (1:Int32)))
def f_hasIn_47 (k6 : Int32 → Int32 → Int32 → Int32 → Int32 → Option (Int32)) (x1 : Int32) (x2 : Int32) (x3 : Int32) (x5 : Int32) (y0 : Int32) (σ : mS) : Option (Int32) := f_hasIn_48 k6 (x1) (x2) (x3) (x5) (y0) ((0:Int32)) σ
def f_hasIn_6  : Nat → Int32 → Int32 → Int32 → Int32 → Int32 → mS → Option (Int32)
  | 0, _, _, _, _, _, _ => none
  | n + 1, x1, x2, x3, x4, x5, σ => if (σ.2 13) ≤ x5 then (rz x4) else ((rd σ 73 x2).bind (fun v1 => (f_bit (v1) (x5)).bind (fun v2 => if v2 = (0:Int32) then (f_hasIn_47 (fun z0 z1 z2 z3 z4 => f_hasIn_6 n z0 z1 z2 z3 z4 σ) (x1) (x2) (x3) (x5) (x4) σ) else ((f_related (x1) (x5) (x3) σ).bind (fun v3 => if v3 = (0:Int32) then (f_hasIn_47 (fun z0 z1 z2 z3 z4 => f_hasIn_6 n z0 z1 z2 z3 z4 σ) (x1) (x2) (x3) (x5) (x4) σ) else (f_hasIn_48 (fun z0 z1 z2 z3 z4 => f_hasIn_6 n z0 z1 z2 z3 z4 σ) (x1) (x2) (x3) (x5) (x4) ((1:Int32)) σ))))))
def f_hasIn (x1 : Int32) (x2 : Int32) (x3 : Int32) (σ : mS) : Option (Int32) := f_hasIn_6 4000 (x1) (x2) (x3) ((0:Int32)) ((0:Int32)) σ
set_option maxRecDepth 20000 in
set_option maxHeartbeats 4000000 in
theorem N_hasIn_48 {p : Program} {l : Launch} {e : Env} {s : State} {m : MethodId} {args : Array Value} {below : List Frame} {meth : Method} {c : Code} {D : mD} {mb : Nat} {k6 : Int32 → Int32 → Int32 → Int32 → Int32 → Option (Int32)}  {x1 : Int32} {x2 : Int32} {x3 : Int32} {x5 : Int32} {y0 : Int32} {y1 : Int32} {σ : mS} {ls : Array Slot} {r : Int32} (X : mX p s m args meth c cX12_hasIn 6 (some .boolean) D) (hP : mP D mb σ s.heap) (hk6 : ∀ {x1 : Int32} {x2 : Int32} {x3 : Int32} {x4 : Int32} {x5 : Int32} {ls : Array Slot}, lv_has ls 6 [(0, .ref mb), (1, .int x1), (2, .int x2), (3, .int x3), (4, .int x4), (5, .int x5)] → k6 x1 x2 x3 x4 x5 = some r → mWr p l e 2 46 s m args below meth c (some (.int r)) (F0 m 6 ls [])) (hl : lv_has ls 6 [(0, .ref mb), (1, .int x1), (2, .int x2), (3, .int x3), (5, .int x5)]) (h : f_hasIn_48 k6 x1 x2 x3 x5 y0 y1 σ = some r) : mWr p l e 2 46 s m args below meth c (some (.int r)) (F0 m 48 ls [.int y1, .int y0]) := by
  have hx := X.1
  have hb := X.2.1
  have hown := X.2.2.2.1
  have hts := X.2.2.2.2.1
  have h : (k6 (x1) (x2) (x3) ((y0 ||| y1)) ((x5 + (1:Int32)))) = some r := h
  refine lv_ior hx hb dX12_hasIn_48 ?_
  refine lv_istore hx hb dX12_hasIn_49 hl (Nat.le_of_ble_eq_true rfl) rfl (fun ls (hl : lv_has ls 6 [(4, .int (y0 ||| y1)), (0, .ref mb), (1, .int x1), (2, .int x2), (3, .int x3), (5, .int x5)]) => ?_)
  refine lv_iinc (v := (x5 + (1:Int32))) hx hb dX12_hasIn_51 hl (k := 5) rfl rfl (Nat.le_of_ble_eq_true rfl) rfl (fun ls (hl : lv_has ls 6 [(5, .int (x5 + (1:Int32))), (4, .int (y0 ||| y1)), (0, .ref mb), (1, .int x1), (2, .int x2), (3, .int x3)]) => ?_)
  refine lv_goto (tgt := 6) hx hb dX12_hasIn_54 rfl ?_
  exact hk6 (lv_sub hl [2, 3, 4, 5, 1, 0] rfl) h
set_option maxRecDepth 20000 in
set_option maxHeartbeats 4000000 in
theorem N_hasIn_47 {p : Program} {l : Launch} {e : Env} {s : State} {m : MethodId} {args : Array Value} {below : List Frame} {meth : Method} {c : Code} {D : mD} {mb : Nat} {k6 : Int32 → Int32 → Int32 → Int32 → Int32 → Option (Int32)}  {x1 : Int32} {x2 : Int32} {x3 : Int32} {x5 : Int32} {y0 : Int32} {σ : mS} {ls : Array Slot} {r : Int32} (X : mX p s m args meth c cX12_hasIn 6 (some .boolean) D) (hP : mP D mb σ s.heap) (hk6 : ∀ {x1 : Int32} {x2 : Int32} {x3 : Int32} {x4 : Int32} {x5 : Int32} {ls : Array Slot}, lv_has ls 6 [(0, .ref mb), (1, .int x1), (2, .int x2), (3, .int x3), (4, .int x4), (5, .int x5)] → k6 x1 x2 x3 x4 x5 = some r → mWr p l e 2 46 s m args below meth c (some (.int r)) (F0 m 6 ls [])) (hl : lv_has ls 6 [(0, .ref mb), (1, .int x1), (2, .int x2), (3, .int x3), (5, .int x5)]) (h : f_hasIn_47 k6 x1 x2 x3 x5 y0 σ = some r) : mWr p l e 2 46 s m args below meth c (some (.int r)) (F0 m 47 ls [.int y0]) := by
  have hx := X.1
  have hb := X.2.1
  have hown := X.2.2.2.1
  have hts := X.2.2.2.2.1
  have h : (f_hasIn_48 k6 (x1) (x2) (x3) (x5) (y0) ((0:Int32)) σ) = some r := h
  refine lv_iconst (v := (0:Int32)) hx hb dX12_hasIn_47 (by decide) ?_
  exact N_hasIn_48 X hP hk6 (lv_sub hl [0, 1, 2, 3, 4] rfl) h
set_option maxRecDepth 20000 in
set_option maxHeartbeats 4000000 in
theorem N_hasIn_6 {p : Program} {l : Launch} {e : Env} {s : State} {m : MethodId} {args : Array Value} {below : List Frame} {meth : Method} {c : Code} {D : mD} {mb : Nat}  {n : Nat} {x1 : Int32} {x2 : Int32} {x3 : Int32} {x4 : Int32} {x5 : Int32} {σ : mS} {ls : Array Slot} {r : Int32} (X : mX p s m args meth c cX12_hasIn 6 (some .boolean) D) (hP : mP D mb σ s.heap)  (hl : lv_has ls 6 [(0, .ref mb), (1, .int x1), (2, .int x2), (3, .int x3), (4, .int x4), (5, .int x5)]) (h : f_hasIn_6  n x1 x2 x3 x4 x5 σ = some r) : mWr p l e 2 46 s m args below meth c (some (.int r)) (F0 m 6 ls []) := by
  have hx := X.1
  have hb := X.2.1
  have hown := X.2.2.2.1
  have hts := X.2.2.2.2.1
  induction n generalizing x1 x2 x3 x4 x5 ls with
  | zero => exact absurd (show none = some r from h) (by simp)
  | succ n ih =>
    have h : (if (σ.2 13) ≤ x5 then (rz x4) else ((rd σ 73 x2).bind (fun v1 => (f_bit (v1) (x5)).bind (fun v2 => if v2 = (0:Int32) then (f_hasIn_47 (fun z0 z1 z2 z3 z4 => f_hasIn_6 n z0 z1 z2 z3 z4 σ) (x1) (x2) (x3) (x5) (x4) σ) else ((f_related (x1) (x5) (x3) σ).bind (fun v3 => if v3 = (0:Int32) then (f_hasIn_47 (fun z0 z1 z2 z3 z4 => f_hasIn_6 n z0 z1 z2 z3 z4 σ) (x1) (x2) (x3) (x5) (x4) σ) else (f_hasIn_48 (fun z0 z1 z2 z3 z4 => f_hasIn_6 n z0 z1 z2 z3 z4 σ) (x1) (x2) (x3) (x5) (x4) ((1:Int32)) σ))))))) = some r := h
    refine lv_iload hx hb dX12_hasIn_6 (lv_at hl 5 rfl) ?_
    refine lv_aload_n hx hb dX12_hasIn_8 rfl (lv_at hl 0 rfl) ?_
    refine mg_made X hP dX12_hasIn_9 ?_
    refine lv_icmp_ge (tgt := 57) hx hb dX12_hasIn_12 rfl (fun hc => ?_) (fun hc => ?_)
    · have h := ip hc h
      refine lv_iload hx hb dX12_hasIn_57 (lv_at hl 4 rfl) ?_
      obtain ⟨hz, rfl⟩ := rz_spec h
      exact m_rz X hz dX12_hasIn_59
    · have h := ine hc h
      refine lv_iload hx hb dX12_hasIn_15 (lv_at hl 4 rfl) ?_
      refine lv_aload_n hx hb dX12_hasIn_17 rfl (lv_at hl 0 rfl) ?_
      refine lv_aload_n hx hb dX12_hasIn_18 rfl (lv_at hl 0 rfl) ?_
      refine mg_set X hP dX12_hasIn_19 ?_
      refine lv_iload_n hx hb dX12_hasIn_22 rfl (lv_at hl 2 rfl) ?_
      obtain ⟨v1, hv1, h⟩ := ob h
      refine m_ald X hP hv1 dX12_hasIn_23 ?_
      refine lv_iload hx hb dX12_hasIn_24 (lv_at hl 5 rfl) ?_
      obtain ⟨v2, hv2, h⟩ := ob h
      refine cl_bit X hP hv2 ⟨Nat.le_of_ble_eq_true rfl, Nat.le_of_ble_eq_true rfl⟩ hl.1 (Nat.le_of_ble_eq_true rfl) dX12_hasIn_26 ?_
      refine lv_if_eq (tgt := 47) hx hb dX12_hasIn_29 rfl (fun hc => ?_) (fun hc => ?_)
      · have h := ip hc h
        exact N_hasIn_47 X hP ih (lv_sub hl [0, 1, 2, 3, 5] rfl) h
      · have h := ine hc h
        refine lv_aload_n hx hb dX12_hasIn_32 rfl (lv_at hl 0 rfl) ?_
        refine lv_iload_n hx hb dX12_hasIn_33 rfl (lv_at hl 1 rfl) ?_
        refine lv_iload hx hb dX12_hasIn_34 (lv_at hl 5 rfl) ?_
        refine lv_iload_n hx hb dX12_hasIn_36 rfl (lv_at hl 3 rfl) ?_
        obtain ⟨v3, hv3, h⟩ := ob h
        refine cl_related X hP hv3 ⟨Nat.le_of_ble_eq_true rfl, Nat.le_of_ble_eq_true rfl⟩ hl.1 (Nat.le_of_ble_eq_true rfl) dX12_hasIn_37 ?_
        refine lv_if_eq (tgt := 47) hx hb dX12_hasIn_40 rfl (fun hc => ?_) (fun hc => ?_)
        · have h := ip hc h
          exact N_hasIn_47 X hP ih (lv_sub hl [0, 1, 2, 3, 5] rfl) h
        · have h := ine hc h
          refine lv_iconst (v := (1:Int32)) hx hb dX12_hasIn_43 (by decide) ?_
          refine lv_goto (tgt := 48) hx hb dX12_hasIn_44 rfl ?_
          exact N_hasIn_48 X hP ih (lv_sub hl [0, 1, 2, 3, 5] rfl) h
set_option maxRecDepth 20000 in
set_option maxHeartbeats 4000000 in
theorem K_hasIn (l : Launch) (D : mD) (mb : Nat) (σ : mS) (x1 : Int32) (x2 : Int32) (x3 : Int32) {r : Int32} (h : f_hasIn x1 x2 x3 σ = some r) : Met l yX12_hasIn (Cond.code yX12_hasIn cX12_hasIn 6 (some .boolean) :: BG) (rM 2 46) (mPc D mb σ [.int x1, .int x2, .int x3]) (mQr (some (.int r))) 0 0 (fun _ => False) := by
  refine Met.ofW (cc := cX12_hasIn) (maxL := 6) (ret := (some .boolean)) (by decide) rfl ?_
  intro p e s m args below meth c s₁ B hml hv
  obtain ⟨rfl, hP, hK⟩ := hv
  have X := mX_of B hml rfl hK
  have hx := X.1
  have hb := X.2.1
  have hown := X.2.2.2.1
  have hts := X.2.2.2.2.1
  have hl := lv_entry (.ref mb :: [.int x1, .int x2, .int x3]) (n := 6) (Nat.le_of_ble_eq_true rfl)
  rw [lg_entry_eq]
  generalize (lg_sl (.ref mb :: [.int x1, .int x2, .int x3]) ++ List.replicate (6 - (lg_sl (.ref mb :: [.int x1, .int x2, .int x3])).length) Slot.unset).toArray = ls at hl ⊢
  have hl : lv_has ls 6 [(0, .ref mb), (1, .int x1), (2, .int x2), (3, .int x3)] := hl
  show mWr p l e 2 46 s m (Value.ref mb :: [.int x1, .int x2, .int x3]).toArray below meth c (some (.int r)) (F0 m 0 ls [])
  have h : (f_hasIn_6 4000 (x1) (x2) (x3) ((0:Int32)) ((0:Int32)) σ) = some r := h
  refine lv_iconst (v := (0:Int32)) hx hb dX12_hasIn_0 (by decide) ?_
  refine lv_istore hx hb dX12_hasIn_1 hl (Nat.le_of_ble_eq_true rfl) rfl (fun ls (hl : lv_has ls 6 [(4, .int (0:Int32)), (0, .ref mb), (1, .int x1), (2, .int x2), (3, .int x3)]) => ?_)
  refine lv_iconst (v := (0:Int32)) hx hb dX12_hasIn_3 (by decide) ?_
  refine lv_istore hx hb dX12_hasIn_4 hl (Nat.le_of_ble_eq_true rfl) rfl (fun ls (hl : lv_has ls 6 [(5, .int (0:Int32)), (4, .int (0:Int32)), (0, .ref mb), (1, .int x1), (2, .int x2), (3, .int x3)]) => ?_)
  exact N_hasIn_6 X hP (lv_sub hl [2, 3, 4, 5, 1, 0] rfl) h
theorem cl_hasIn {p : Program} {l : Launch} {e : Env} {s : State} {m : MethodId} {args : Array Value} {below : List Frame} {meth : Method} {c : Code} {D : mD} {mb : Nat} {H : Heap} {locs : List Loc} {Q : State → Prop} {cc : ByteArray} {pc fR lR nL : Nat} {ls : Array Slot} {rest : List Value} {ret : Option FieldType} {σ : mS} (X : mX p s m args meth c cc nL ret D) (hP : mP D mb σ H) {x1 : Int32} {x2 : Int32} {x3 : Int32} {r : Int32} (h : f_hasIn x1 x2 x3 σ = some r) (hr : 2 + 1 ≤ fR ∧ 8 + (6 + 11) + 46 ≤ lR) (hl : ls.size = nL) (hW : (rest.map fun v => v.category).sum ≤ 8) (hdg : decode cc pc = .ok (.invokevirtual 297, 3)) (kk : W p l e (rM fR lR) s m args below meth c H locs 0 0 Q (F0 m (pc + 3) ls (.int r :: rest))) : W p l e (rM fR lR) s m args below meth c H locs 0 0 Q (F0 m pc ls (.int x3 :: .int x2 :: .int x1 :: .ref mb :: rest)) := m_cr (m_run (n := 3) X (K_hasIn l D mb σ x1 x2 x3 h) ⟨w_2047, w_2049, w_92, w_2050⟩ (hyX rfl (by decide +kernel)) rfl hr hP hl hW hdg rfl) kk
-- passes(II)Z
def f_passes_83  (y0 : Int32) (σ : mS) : Option (Int32) := rz y0
def f_passes_137  (y0 : Int32) (σ : mS) : Option (Int32) := rz y0
def f_passes_127  (x4 : Int32) (y0 : Int32) (σ : mS) : Option (Int32) := if y0 = x4 then (f_passes_137 ((1:Int32)) σ) else (f_passes_137 ((0:Int32)) σ)
def f_passes_172  (y0 : Int32) (σ : mS) : Option (Int32) := rz y0
def f_passes (x1 : Int32) (x2 : Int32) (σ : mS) : Option (Int32) := (rd σ 18 x1).bind (fun v1 => (rd σ 19 x1).bind (fun v2 => (rd σ 17 x1).bind (fun v3 => if v3 = (0:Int32) then ((rd σ 0 x2).bind (fun v4 => if v4 = v1 then (f_passes_83 ((1:Int32)) σ) else (f_passes_83 ((0:Int32)) σ))) else (if v3 = (1:Int32) then ((rd σ 1 x2).bind (fun v5 => (f_bit (v5) (v1)).bind (fun v6 => rz v6))) else (if v3 = (2:Int32) then ((rd σ 2 x2).bind (fun v7 => (f_bit (v7) (v1)).bind (fun v8 => rz v8))) else (if v3 = (3:Int32) then (if v1 = (0:Int32) then ((rd σ 3 x2).bind (fun v10 => f_passes_127 (v2) (v10) σ)) else ((rd σ 4 x2).bind (fun v9 => f_passes_127 (v2) (v9) σ))) else (if v3 = (4:Int32) then ((f_placeOf (x2) σ).bind (fun v11 => (f_nth (v1) (v2) ((v11 + (1:Int32)))).bind (fun v12 => rz v12))) else (if v3 = (5:Int32) then ((rd σ 73 v1).bind (fun v13 => (f_bit (v13) (x2)).bind (fun v14 => if v14 = (0:Int32) then (f_passes_172 ((1:Int32)) σ) else (f_passes_172 ((0:Int32)) σ)))) else (if v3 = (6:Int32) then ((rd σ 73 v1).bind (fun v15 => (f_bit (v15) (x2)).bind (fun v16 => rz v16))) else (if v3 = (7:Int32) then ((f_hasIn (v1) (v2) (x2) σ).bind (fun v17 => rz v17)) else (rz (1:Int32))))))))))))
set_option maxRecDepth 20000 in
set_option maxHeartbeats 4000000 in
theorem N_passes_83 {p : Program} {l : Launch} {e : Env} {s : State} {m : MethodId} {args : Array Value} {below : List Frame} {meth : Method} {c : Code} {D : mD} {mb : Nat}   {y0 : Int32} {σ : mS} {ls : Array Slot} {r : Int32} (X : mX p s m args meth c cX12_passes 5 (some .boolean) D) (hP : mP D mb σ s.heap)  (hl : lv_has ls 5 [(0, .ref mb)]) (h : f_passes_83  y0 σ = some r) : mWr p l e 3 71 s m args below meth c (some (.int r)) (F0 m 83 ls [.int y0]) := by
  have hx := X.1
  have hb := X.2.1
  have hown := X.2.2.2.1
  have hts := X.2.2.2.2.1
  have h : (rz y0) = some r := h
  obtain ⟨hz, rfl⟩ := rz_spec h
  exact m_rz X hz dX12_passes_83
set_option maxRecDepth 20000 in
set_option maxHeartbeats 4000000 in
theorem N_passes_137 {p : Program} {l : Launch} {e : Env} {s : State} {m : MethodId} {args : Array Value} {below : List Frame} {meth : Method} {c : Code} {D : mD} {mb : Nat}   {y0 : Int32} {σ : mS} {ls : Array Slot} {r : Int32} (X : mX p s m args meth c cX12_passes 5 (some .boolean) D) (hP : mP D mb σ s.heap)  (hl : lv_has ls 5 [(0, .ref mb)]) (h : f_passes_137  y0 σ = some r) : mWr p l e 3 71 s m args below meth c (some (.int r)) (F0 m 137 ls [.int y0]) := by
  have hx := X.1
  have hb := X.2.1
  have hown := X.2.2.2.1
  have hts := X.2.2.2.2.1
  have h : (rz y0) = some r := h
  obtain ⟨hz, rfl⟩ := rz_spec h
  exact m_rz X hz dX12_passes_137
set_option maxRecDepth 20000 in
set_option maxHeartbeats 4000000 in
theorem N_passes_127 {p : Program} {l : Launch} {e : Env} {s : State} {m : MethodId} {args : Array Value} {below : List Frame} {meth : Method} {c : Code} {D : mD} {mb : Nat}   {x4 : Int32} {y0 : Int32} {σ : mS} {ls : Array Slot} {r : Int32} (X : mX p s m args meth c cX12_passes 5 (some .boolean) D) (hP : mP D mb σ s.heap)  (hl : lv_has ls 5 [(0, .ref mb), (4, .int x4)]) (h : f_passes_127  x4 y0 σ = some r) : mWr p l e 3 71 s m args below meth c (some (.int r)) (F0 m 127 ls [.int y0]) := by
  have hx := X.1
  have hb := X.2.1
  have hown := X.2.2.2.1
  have hts := X.2.2.2.2.1
  have h : (if y0 = x4 then (f_passes_137 ((1:Int32)) σ) else (f_passes_137 ((0:Int32)) σ)) = some r := h
  refine lv_iload hx hb dX12_passes_127 (lv_at hl 1 rfl) ?_
  refine lv_icmp_ne (tgt := 136) hx hb dX12_passes_129 rfl (fun hc => ?_) (fun hc => ?_)
  · have h := ine hc h
    refine lv_iconst (v := (0:Int32)) hx hb dX12_passes_136 (by decide) ?_
    exact N_passes_137 X hP (lv_sub hl [0] rfl) h
  · have h := ip hc h
    refine lv_iconst (v := (1:Int32)) hx hb dX12_passes_132 (by decide) ?_
    refine lv_goto (tgt := 137) hx hb dX12_passes_133 rfl ?_
    exact N_passes_137 X hP (lv_sub hl [0] rfl) h
set_option maxRecDepth 20000 in
set_option maxHeartbeats 4000000 in
theorem N_passes_172 {p : Program} {l : Launch} {e : Env} {s : State} {m : MethodId} {args : Array Value} {below : List Frame} {meth : Method} {c : Code} {D : mD} {mb : Nat}   {y0 : Int32} {σ : mS} {ls : Array Slot} {r : Int32} (X : mX p s m args meth c cX12_passes 5 (some .boolean) D) (hP : mP D mb σ s.heap)  (hl : lv_has ls 5 [(0, .ref mb)]) (h : f_passes_172  y0 σ = some r) : mWr p l e 3 71 s m args below meth c (some (.int r)) (F0 m 172 ls [.int y0]) := by
  have hx := X.1
  have hb := X.2.1
  have hown := X.2.2.2.1
  have hts := X.2.2.2.2.1
  have h : (rz y0) = some r := h
  obtain ⟨hz, rfl⟩ := rz_spec h
  exact m_rz X hz dX12_passes_172
set_option maxRecDepth 20000 in
set_option maxHeartbeats 4000000 in
theorem K_passes (l : Launch) (D : mD) (mb : Nat) (σ : mS) (x1 : Int32) (x2 : Int32) {r : Int32} (h : f_passes x1 x2 σ = some r) : Met l yX12_passes (Cond.code yX12_passes cX12_passes 5 (some .boolean) :: BG) (rM 3 71) (mPc D mb σ [.int x1, .int x2]) (mQr (some (.int r))) 0 0 (fun _ => False) := by
  refine Met.ofW (cc := cX12_passes) (maxL := 5) (ret := (some .boolean)) (by decide) rfl ?_
  intro p e s m args below meth c s₁ B hml hv
  obtain ⟨rfl, hP, hK⟩ := hv
  have X := mX_of B hml rfl hK
  have hx := X.1
  have hb := X.2.1
  have hown := X.2.2.2.1
  have hts := X.2.2.2.2.1
  have hl := lv_entry (.ref mb :: [.int x1, .int x2]) (n := 5) (Nat.le_of_ble_eq_true rfl)
  rw [lg_entry_eq]
  generalize (lg_sl (.ref mb :: [.int x1, .int x2]) ++ List.replicate (5 - (lg_sl (.ref mb :: [.int x1, .int x2])).length) Slot.unset).toArray = ls at hl ⊢
  have hl : lv_has ls 5 [(0, .ref mb), (1, .int x1), (2, .int x2)] := hl
  show mWr p l e 3 71 s m (Value.ref mb :: [.int x1, .int x2]).toArray below meth c (some (.int r)) (F0 m 0 ls [])
  have h : ((rd σ 18 x1).bind (fun v1 => (rd σ 19 x1).bind (fun v2 => (rd σ 17 x1).bind (fun v3 => if v3 = (0:Int32) then ((rd σ 0 x2).bind (fun v4 => if v4 = v1 then (f_passes_83 ((1:Int32)) σ) else (f_passes_83 ((0:Int32)) σ))) else (if v3 = (1:Int32) then ((rd σ 1 x2).bind (fun v5 => (f_bit (v5) (v1)).bind (fun v6 => rz v6))) else (if v3 = (2:Int32) then ((rd σ 2 x2).bind (fun v7 => (f_bit (v7) (v1)).bind (fun v8 => rz v8))) else (if v3 = (3:Int32) then (if v1 = (0:Int32) then ((rd σ 3 x2).bind (fun v10 => f_passes_127 (v2) (v10) σ)) else ((rd σ 4 x2).bind (fun v9 => f_passes_127 (v2) (v9) σ))) else (if v3 = (4:Int32) then ((f_placeOf (x2) σ).bind (fun v11 => (f_nth (v1) (v2) ((v11 + (1:Int32)))).bind (fun v12 => rz v12))) else (if v3 = (5:Int32) then ((rd σ 73 v1).bind (fun v13 => (f_bit (v13) (x2)).bind (fun v14 => if v14 = (0:Int32) then (f_passes_172 ((1:Int32)) σ) else (f_passes_172 ((0:Int32)) σ)))) else (if v3 = (6:Int32) then ((rd σ 73 v1).bind (fun v15 => (f_bit (v15) (x2)).bind (fun v16 => rz v16))) else (if v3 = (7:Int32) then ((f_hasIn (v1) (v2) (x2) σ).bind (fun v17 => rz v17)) else (rz (1:Int32))))))))))))) = some r := h
  refine lv_aload_n hx hb dX12_passes_0 rfl (lv_at hl 0 rfl) ?_
  refine mg_ta X hP dX12_passes_1 ?_
  refine lv_iload_n hx hb dX12_passes_4 rfl (lv_at hl 1 rfl) ?_
  obtain ⟨v1, hv1, h⟩ := ob h
  refine m_ald X hP hv1 dX12_passes_5 ?_
  refine lv_istore_n hx hb dX12_passes_6 rfl hl (Nat.le_of_ble_eq_true rfl) rfl (fun ls (hl : lv_has ls 5 [(3, .int v1), (0, .ref mb), (1, .int x1), (2, .int x2)]) => ?_)
  refine lv_aload_n hx hb dX12_passes_7 rfl (lv_at hl 1 rfl) ?_
  refine mg_tb X hP dX12_passes_8 ?_
  refine lv_iload_n hx hb dX12_passes_11 rfl (lv_at hl 2 rfl) ?_
  obtain ⟨v2, hv2, h⟩ := ob h
  refine m_ald X hP hv2 dX12_passes_12 ?_
  refine lv_istore hx hb dX12_passes_13 hl (Nat.le_of_ble_eq_true rfl) rfl (fun ls (hl : lv_has ls 5 [(4, .int v2), (3, .int v1), (0, .ref mb), (1, .int x1), (2, .int x2)]) => ?_)
  refine lv_aload_n hx hb dX12_passes_15 rfl (lv_at hl 2 rfl) ?_
  refine mg_tk X hP dX12_passes_16 ?_
  refine lv_iload_n hx hb dX12_passes_19 rfl (lv_at hl 3 rfl) ?_
  obtain ⟨v3, hv3, h⟩ := ob h
  refine m_ald X hP hv3 dX12_passes_20 ?_
  by_cases hc0 : v3 = (0:Int32)
  · have h := ip hc0 h
    refine lv_tableIn (tgt := 68) (off := 47) hx hb dX12_passes_21 (by rw [hc0]; decide) (by rw [hc0]; decide) (by rw [hc0]; rfl) rfl ?_
    refine lv_aload_n hx hb dX12_passes_68 rfl (lv_at hl 2 rfl) ?_
    refine mg_kind X hP dX12_passes_69 ?_
    refine lv_iload_n hx hb dX12_passes_72 rfl (lv_at hl 4 rfl) ?_
    obtain ⟨v4, hv4, h⟩ := ob h
    refine m_ald X hP hv4 dX12_passes_73 ?_
    refine lv_iload_n hx hb dX12_passes_74 rfl (lv_at hl 1 rfl) ?_
    refine lv_icmp_ne (tgt := 82) hx hb dX12_passes_75 rfl (fun hc => ?_) (fun hc => ?_)
    · have h := ine hc h
      refine lv_iconst (v := (0:Int32)) hx hb dX12_passes_82 (by decide) ?_
      exact N_passes_83 X hP (lv_sub hl [2] rfl) h
    · have h := ip hc h
      refine lv_iconst (v := (1:Int32)) hx hb dX12_passes_78 (by decide) ?_
      refine lv_goto (tgt := 83) hx hb dX12_passes_79 rfl ?_
      exact N_passes_83 X hP (lv_sub hl [2] rfl) h
  · have h := ine hc0 h
    by_cases hc1 : v3 = (1:Int32)
    · have h := ip hc1 h
      refine lv_tableIn (tgt := 84) (off := 63) hx hb dX12_passes_21 (by rw [hc1]; decide) (by rw [hc1]; decide) (by rw [hc1]; rfl) rfl ?_
      refine lv_aload_n hx hb dX12_passes_84 rfl (lv_at hl 2 rfl) ?_
      refine lv_aload_n hx hb dX12_passes_85 rfl (lv_at hl 2 rfl) ?_
      refine mg_cls X hP dX12_passes_86 ?_
      refine lv_iload_n hx hb dX12_passes_89 rfl (lv_at hl 4 rfl) ?_
      obtain ⟨v5, hv5, h⟩ := ob h
      refine m_ald X hP hv5 dX12_passes_90 ?_
      refine lv_iload_n hx hb dX12_passes_91 rfl (lv_at hl 1 rfl) ?_
      obtain ⟨v6, hv6, h⟩ := ob h
      refine cl_bit X hP hv6 ⟨Nat.le_of_ble_eq_true rfl, Nat.le_of_ble_eq_true rfl⟩ hl.1 (Nat.le_of_ble_eq_true rfl) dX12_passes_92 ?_
      obtain ⟨hz, rfl⟩ := rz_spec h
      exact m_rz X hz dX12_passes_95
    · have h := ine hc1 h
      by_cases hc2 : v3 = (2:Int32)
      · have h := ip hc2 h
        refine lv_tableIn (tgt := 96) (off := 75) hx hb dX12_passes_21 (by rw [hc2]; decide) (by rw [hc2]; decide) (by rw [hc2]; rfl) rfl ?_
        refine lv_aload_n hx hb dX12_passes_96 rfl (lv_at hl 2 rfl) ?_
        refine lv_aload_n hx hb dX12_passes_97 rfl (lv_at hl 2 rfl) ?_
        refine mg_sta X hP dX12_passes_98 ?_
        refine lv_iload_n hx hb dX12_passes_101 rfl (lv_at hl 4 rfl) ?_
        obtain ⟨v7, hv7, h⟩ := ob h
        refine m_ald X hP hv7 dX12_passes_102 ?_
        refine lv_iload_n hx hb dX12_passes_103 rfl (lv_at hl 1 rfl) ?_
        obtain ⟨v8, hv8, h⟩ := ob h
        refine cl_bit X hP hv8 ⟨Nat.le_of_ble_eq_true rfl, Nat.le_of_ble_eq_true rfl⟩ hl.1 (Nat.le_of_ble_eq_true rfl) dX12_passes_104 ?_
        obtain ⟨hz, rfl⟩ := rz_spec h
        exact m_rz X hz dX12_passes_107
      · have h := ine hc2 h
        by_cases hc3 : v3 = (3:Int32)
        · have h := ip hc3 h
          refine lv_tableIn (tgt := 108) (off := 87) hx hb dX12_passes_21 (by rw [hc3]; decide) (by rw [hc3]; decide) (by rw [hc3]; rfl) rfl ?_
          refine lv_iload_n hx hb dX12_passes_108 rfl (lv_at hl 1 rfl) ?_
          refine lv_if_ne (tgt := 121) hx hb dX12_passes_109 rfl (fun hc => ?_) (fun hc => ?_)
          · have h := ine hc h
            refine lv_aload_n hx hb dX12_passes_121 rfl (lv_at hl 2 rfl) ?_
            refine mg_at1 X hP dX12_passes_122 ?_
            refine lv_iload_n hx hb dX12_passes_125 rfl (lv_at hl 4 rfl) ?_
            obtain ⟨v9, hv9, h⟩ := ob h
            refine m_ald X hP hv9 dX12_passes_126 ?_
            exact N_passes_127 X hP (lv_sub hl [2, 0] rfl) h
          · have h := ip hc h
            refine lv_aload_n hx hb dX12_passes_112 rfl (lv_at hl 2 rfl) ?_
            refine mg_at0 X hP dX12_passes_113 ?_
            refine lv_iload_n hx hb dX12_passes_116 rfl (lv_at hl 4 rfl) ?_
            obtain ⟨v10, hv10, h⟩ := ob h
            refine m_ald X hP hv10 dX12_passes_117 ?_
            refine lv_goto (tgt := 127) hx hb dX12_passes_118 rfl ?_
            exact N_passes_127 X hP (lv_sub hl [2, 0] rfl) h
        · have h := ine hc3 h
          by_cases hc4 : v3 = (4:Int32)
          · have h := ip hc4 h
            refine lv_tableIn (tgt := 138) (off := 117) hx hb dX12_passes_21 (by rw [hc4]; decide) (by rw [hc4]; decide) (by rw [hc4]; rfl) rfl ?_
            refine lv_aload_n hx hb dX12_passes_138 rfl (lv_at hl 2 rfl) ?_
            refine lv_iload_n hx hb dX12_passes_139 rfl (lv_at hl 1 rfl) ?_
            refine lv_iload hx hb dX12_passes_140 (lv_at hl 0 rfl) ?_
            refine lv_aload_n hx hb dX12_passes_142 rfl (lv_at hl 2 rfl) ?_
            refine lv_iload_n hx hb dX12_passes_143 rfl (lv_at hl 4 rfl) ?_
            obtain ⟨v11, hv11, h⟩ := ob h
            refine cl_placeOf X hP hv11 ⟨Nat.le_of_ble_eq_true rfl, Nat.le_of_ble_eq_true rfl⟩ hl.1 (Nat.le_of_ble_eq_true rfl) dX12_passes_144 ?_
            refine lv_iconst (v := (1:Int32)) hx hb dX12_passes_147 (by decide) ?_
            refine lv_iadd hx hb dX12_passes_148 ?_
            obtain ⟨v12, hv12, h⟩ := ob h
            refine cl_nth X hP hv12 ⟨Nat.le_of_ble_eq_true rfl, Nat.le_of_ble_eq_true rfl⟩ hl.1 (Nat.le_of_ble_eq_true rfl) dX12_passes_149 ?_
            obtain ⟨hz, rfl⟩ := rz_spec h
            exact m_rz X hz dX12_passes_152
          · have h := ine hc4 h
            by_cases hc5 : v3 = (5:Int32)
            · have h := ip hc5 h
              refine lv_tableIn (tgt := 153) (off := 132) hx hb dX12_passes_21 (by rw [hc5]; decide) (by rw [hc5]; decide) (by rw [hc5]; rfl) rfl ?_
              refine lv_aload_n hx hb dX12_passes_153 rfl (lv_at hl 2 rfl) ?_
              refine lv_aload_n hx hb dX12_passes_154 rfl (lv_at hl 2 rfl) ?_
              refine mg_set X hP dX12_passes_155 ?_
              refine lv_iload_n hx hb dX12_passes_158 rfl (lv_at hl 1 rfl) ?_
              obtain ⟨v13, hv13, h⟩ := ob h
              refine m_ald X hP hv13 dX12_passes_159 ?_
              refine lv_iload_n hx hb dX12_passes_160 rfl (lv_at hl 4 rfl) ?_
              obtain ⟨v14, hv14, h⟩ := ob h
              refine cl_bit X hP hv14 ⟨Nat.le_of_ble_eq_true rfl, Nat.le_of_ble_eq_true rfl⟩ hl.1 (Nat.le_of_ble_eq_true rfl) dX12_passes_161 ?_
              refine lv_if_ne (tgt := 171) hx hb dX12_passes_164 rfl (fun hc => ?_) (fun hc => ?_)
              · have h := ine hc h
                refine lv_iconst (v := (0:Int32)) hx hb dX12_passes_171 (by decide) ?_
                exact N_passes_172 X hP (lv_sub hl [2] rfl) h
              · have h := ip hc h
                refine lv_iconst (v := (1:Int32)) hx hb dX12_passes_167 (by decide) ?_
                refine lv_goto (tgt := 172) hx hb dX12_passes_168 rfl ?_
                exact N_passes_172 X hP (lv_sub hl [2] rfl) h
            · have h := ine hc5 h
              by_cases hc6 : v3 = (6:Int32)
              · have h := ip hc6 h
                refine lv_tableIn (tgt := 173) (off := 152) hx hb dX12_passes_21 (by rw [hc6]; decide) (by rw [hc6]; decide) (by rw [hc6]; rfl) rfl ?_
                refine lv_aload_n hx hb dX12_passes_173 rfl (lv_at hl 2 rfl) ?_
                refine lv_aload_n hx hb dX12_passes_174 rfl (lv_at hl 2 rfl) ?_
                refine mg_set X hP dX12_passes_175 ?_
                refine lv_iload_n hx hb dX12_passes_178 rfl (lv_at hl 1 rfl) ?_
                obtain ⟨v15, hv15, h⟩ := ob h
                refine m_ald X hP hv15 dX12_passes_179 ?_
                refine lv_iload_n hx hb dX12_passes_180 rfl (lv_at hl 4 rfl) ?_
                obtain ⟨v16, hv16, h⟩ := ob h
                refine cl_bit X hP hv16 ⟨Nat.le_of_ble_eq_true rfl, Nat.le_of_ble_eq_true rfl⟩ hl.1 (Nat.le_of_ble_eq_true rfl) dX12_passes_181 ?_
                obtain ⟨hz, rfl⟩ := rz_spec h
                exact m_rz X hz dX12_passes_184
              · have h := ine hc6 h
                by_cases hc7 : v3 = (7:Int32)
                · have h := ip hc7 h
                  refine lv_tableIn (tgt := 185) (off := 164) hx hb dX12_passes_21 (by rw [hc7]; decide) (by rw [hc7]; decide) (by rw [hc7]; rfl) rfl ?_
                  refine lv_aload_n hx hb dX12_passes_185 rfl (lv_at hl 2 rfl) ?_
                  refine lv_iload_n hx hb dX12_passes_186 rfl (lv_at hl 1 rfl) ?_
                  refine lv_iload hx hb dX12_passes_187 (lv_at hl 0 rfl) ?_
                  refine lv_iload_n hx hb dX12_passes_189 rfl (lv_at hl 4 rfl) ?_
                  obtain ⟨v17, hv17, h⟩ := ob h
                  refine cl_hasIn X hP hv17 ⟨Nat.le_of_ble_eq_true rfl, Nat.le_of_ble_eq_true rfl⟩ hl.1 (Nat.le_of_ble_eq_true rfl) dX12_passes_190 ?_
                  obtain ⟨hz, rfl⟩ := rz_spec h
                  exact m_rz X hz dX12_passes_193
                · have h := ine hc7 h
                  refine lv_tableOut (tgt := 194) hx hb dX12_passes_21 (sw_out (lo := 0) (hi := 7) (fun k h1 h2 => by
                    have h3 : k = 0 ∨ k = 1 ∨ k = 2 ∨ k = 3 ∨ k = 4 ∨ k = 5 ∨ k = 6 ∨ k = 7 := by omega
                    rcases h3 with rfl | rfl | rfl | rfl | rfl | rfl | rfl | rfl
                    · exact hc0
                    · exact hc1
                    · exact hc2
                    · exact hc3
                    · exact hc4
                    · exact hc5
                    · exact hc6
                    · exact hc7)) rfl ?_
                  refine lv_iconst (v := (1:Int32)) hx hb dX12_passes_194 (by decide) ?_
                  obtain ⟨hz, rfl⟩ := rz_spec h
                  exact m_rz X hz dX12_passes_195
theorem cl_passes {p : Program} {l : Launch} {e : Env} {s : State} {m : MethodId} {args : Array Value} {below : List Frame} {meth : Method} {c : Code} {D : mD} {mb : Nat} {H : Heap} {locs : List Loc} {Q : State → Prop} {cc : ByteArray} {pc fR lR nL : Nat} {ls : Array Slot} {rest : List Value} {ret : Option FieldType} {σ : mS} (X : mX p s m args meth c cc nL ret D) (hP : mP D mb σ H) {x1 : Int32} {x2 : Int32} {r : Int32} (h : f_passes x1 x2 σ = some r) (hr : 3 + 1 ≤ fR ∧ 8 + (5 + 11) + 71 ≤ lR) (hl : ls.size = nL) (hW : (rest.map fun v => v.category).sum ≤ 8) (hdg : decode cc pc = .ok (.invokevirtual 303, 3)) (kk : W p l e (rM fR lR) s m args below meth c H locs 0 0 Q (F0 m (pc + 3) ls (.int r :: rest))) : W p l e (rM fR lR) s m args below meth c H locs 0 0 Q (F0 m pc ls (.int x2 :: .int x1 :: .ref mb :: rest)) := m_cr (m_run (n := 2) X (K_passes l D mb σ x1 x2 h) ⟨w_2039, w_2041, w_90, w_2042⟩ (hyX rfl (by decide +kernel)) rfl hr hP hl hW hdg rfl) kk
-- compound(II)I
def f_compound_166 (k61 : Int32 → Int32 → Int32 → Int32 → Int32 → Option (Int32)) (x1 : Int32) (x2 : Int32) (x3 : Int32) (x5 : Int32) (y0 : Int32) (y1 : Int32) (σ : mS) : Option (Int32) := k61 (x1) (x2) (x3) ((y0 ||| y1)) ((x5 + (1:Int32)))
def f_compound_151 (k61 : Int32 → Int32 → Int32 → Int32 → Int32 → Option (Int32)) (x1 : Int32) (x2 : Int32) (x3 : Int32) (x4 : Int32) (x5 : Int32) (x6 : Int32) (σ : mS) : Option (Int32) := if x6 = (0:Int32) then (f_compound_166 k61 (x1) (x2) (x3) (x5) (x4) ((0:Int32)) σ) else (f_compound_166 k61 (x1) (x2) (x3) (x5) (x4) (((1:Int32) <<< (x5 &&& 31))) σ)
def f_compound_106 (k61 : Int32 → Int32 → Int32 → Int32 → Int32 → Option (Int32)) : Nat → Int32 → Int32 → Int32 → Int32 → Int32 → Int32 → Int32 → mS → Option (Int32)
  | 0, _, _, _, _, _, _, _, _ => none
  | n + 1, x1, x2, x3, x4, x5, x6, x7, σ => (rd σ 16 (((4:Int32) * x1) + x2)).bind (fun v1 => if v1 ≤ x7 then (f_compound_151 k61 (x1) (x2) (x3) (x4) (x5) (x6) σ) else (if x6 = (0:Int32) then (f_compound_151 k61 (x1) (x2) (x3) (x4) (x5) (x6) σ) else ((f_passes (((((16:Int32) * x1) + ((4:Int32) * x2)) + x7)) (x5) σ).bind (fun v2 => f_compound_106 k61 n (x1) (x2) (x3) (x4) (x5) (v2) ((x7 + (1:Int32))) σ))))
def f_compound_101 (k61 : Int32 → Int32 → Int32 → Int32 → Int32 → Option (Int32)) (x1 : Int32) (x2 : Int32) (x3 : Int32) (x4 : Int32) (x5 : Int32) (y0 : Int32) (σ : mS) : Option (Int32) := f_compound_106 k61 4000 (x1) (x2) (x3) (x4) (x5) (y0) ((0:Int32)) σ
def f_compound_61  : Nat → Int32 → Int32 → Int32 → Int32 → Int32 → mS → Option (Int32)
  | 0, _, _, _, _, _, _ => none
  | n + 1, x1, x2, x3, x4, x5, σ => if (σ.2 13) ≤ x5 then (some x4) else (if x3 = (0:Int32) then ((f_bit ((σ.2 72)) (x5)).bind (fun v1 => f_compound_101 (fun z0 z1 z2 z3 z4 => f_compound_61 n z0 z1 z2 z3 z4 σ) (x1) (x2) (x3) (x4) (x5) (v1) σ)) else (if x5 = (σ.2 71) then (f_compound_101 (fun z0 z1 z2 z3 z4 => f_compound_61 n z0 z1 z2 z3 z4 σ) (x1) (x2) (x3) (x4) (x5) ((1:Int32)) σ) else (f_compound_101 (fun z0 z1 z2 z3 z4 => f_compound_61 n z0 z1 z2 z3 z4 σ) (x1) (x2) (x3) (x4) (x5) ((0:Int32)) σ)))
def f_compound_50 (k8 : Int32 → Int32 → Int32 → Int32 → Int32 → Option (Int32)) (x1 : Int32) (x2 : Int32) (x4 : Int32) (x5 : Int32) (y0 : Int32) (y1 : Int32) (σ : mS) : Option (Int32) := k8 (x1) (x2) ((y0 ||| y1)) (x4) ((x5 + (1:Int32)))
def f_compound_8  : Nat → Int32 → Int32 → Int32 → Int32 → Int32 → mS → Option (Int32)
  | 0, _, _, _, _, _, _ => none
  | n + 1, x1, x2, x3, x4, x5, σ => (rd σ 16 (((4:Int32) * x1) + x2)).bind (fun v1 => if v1 ≤ x5 then (f_compound_61 4000 (x1) (x2) (x3) (x4) ((0:Int32)) σ) else ((rd σ 17 ((((16:Int32) * x1) + ((4:Int32) * x2)) + x5)).bind (fun v2 => if v2 = (8:Int32) then (f_compound_50 (fun z0 z1 z2 z3 z4 => f_compound_8 n z0 z1 z2 z3 z4 σ) (x1) (x2) (x4) (x5) (x3) ((1:Int32)) σ) else (f_compound_50 (fun z0 z1 z2 z3 z4 => f_compound_8 n z0 z1 z2 z3 z4 σ) (x1) (x2) (x4) (x5) (x3) ((0:Int32)) σ))))
def f_compound (x1 : Int32) (x2 : Int32) (σ : mS) : Option (Int32) := f_compound_8 4000 (x1) (x2) ((0:Int32)) ((0:Int32)) ((0:Int32)) σ
set_option maxRecDepth 20000 in
set_option maxHeartbeats 4000000 in
theorem N_compound_166 {p : Program} {l : Launch} {e : Env} {s : State} {m : MethodId} {args : Array Value} {below : List Frame} {meth : Method} {c : Code} {D : mD} {mb : Nat} {k61 : Int32 → Int32 → Int32 → Int32 → Int32 → Option (Int32)}  {x1 : Int32} {x2 : Int32} {x3 : Int32} {x5 : Int32} {y0 : Int32} {y1 : Int32} {σ : mS} {ls : Array Slot} {r : Int32} (X : mX p s m args meth c cX12_compound 8 (some .int) D) (hP : mP D mb σ s.heap) (hk61 : ∀ {x1 : Int32} {x2 : Int32} {x3 : Int32} {x4 : Int32} {x5 : Int32} {ls : Array Slot}, lv_has ls 8 [(0, .ref mb), (1, .int x1), (2, .int x2), (3, .int x3), (4, .int x4), (5, .int x5)] → k61 x1 x2 x3 x4 x5 = some r → mWr p l e 4 95 s m args below meth c (some (.int r)) (F0 m 61 ls [])) (hl : lv_has ls 8 [(0, .ref mb), (1, .int x1), (2, .int x2), (3, .int x3), (5, .int x5)]) (h : f_compound_166 k61 x1 x2 x3 x5 y0 y1 σ = some r) : mWr p l e 4 95 s m args below meth c (some (.int r)) (F0 m 166 ls [.int y1, .int y0]) := by
  have hx := X.1
  have hb := X.2.1
  have hown := X.2.2.2.1
  have hts := X.2.2.2.2.1
  have h : (k61 (x1) (x2) (x3) ((y0 ||| y1)) ((x5 + (1:Int32)))) = some r := h
  refine lv_ior hx hb dX12_compound_166 ?_
  refine lv_istore hx hb dX12_compound_167 hl (Nat.le_of_ble_eq_true rfl) rfl (fun ls (hl : lv_has ls 8 [(4, .int (y0 ||| y1)), (0, .ref mb), (1, .int x1), (2, .int x2), (3, .int x3), (5, .int x5)]) => ?_)
  refine lv_iinc (v := (x5 + (1:Int32))) hx hb dX12_compound_169 hl (k := 5) rfl rfl (Nat.le_of_ble_eq_true rfl) rfl (fun ls (hl : lv_has ls 8 [(5, .int (x5 + (1:Int32))), (4, .int (y0 ||| y1)), (0, .ref mb), (1, .int x1), (2, .int x2), (3, .int x3)]) => ?_)
  refine lv_goto (tgt := 61) hx hb dX12_compound_172 rfl ?_
  exact hk61 (lv_sub hl [2, 3, 4, 5, 1, 0] rfl) h
set_option maxRecDepth 20000 in
set_option maxHeartbeats 4000000 in
theorem N_compound_151 {p : Program} {l : Launch} {e : Env} {s : State} {m : MethodId} {args : Array Value} {below : List Frame} {meth : Method} {c : Code} {D : mD} {mb : Nat} {k61 : Int32 → Int32 → Int32 → Int32 → Int32 → Option (Int32)}  {x1 : Int32} {x2 : Int32} {x3 : Int32} {x4 : Int32} {x5 : Int32} {x6 : Int32} {σ : mS} {ls : Array Slot} {r : Int32} (X : mX p s m args meth c cX12_compound 8 (some .int) D) (hP : mP D mb σ s.heap) (hk61 : ∀ {x1 : Int32} {x2 : Int32} {x3 : Int32} {x4 : Int32} {x5 : Int32} {ls : Array Slot}, lv_has ls 8 [(0, .ref mb), (1, .int x1), (2, .int x2), (3, .int x3), (4, .int x4), (5, .int x5)] → k61 x1 x2 x3 x4 x5 = some r → mWr p l e 4 95 s m args below meth c (some (.int r)) (F0 m 61 ls [])) (hl : lv_has ls 8 [(0, .ref mb), (1, .int x1), (2, .int x2), (3, .int x3), (4, .int x4), (5, .int x5), (6, .int x6)]) (h : f_compound_151 k61 x1 x2 x3 x4 x5 x6 σ = some r) : mWr p l e 4 95 s m args below meth c (some (.int r)) (F0 m 151 ls []) := by
  have hx := X.1
  have hb := X.2.1
  have hown := X.2.2.2.1
  have hts := X.2.2.2.2.1
  have h : (if x6 = (0:Int32) then (f_compound_166 k61 (x1) (x2) (x3) (x5) (x4) ((0:Int32)) σ) else (f_compound_166 k61 (x1) (x2) (x3) (x5) (x4) (((1:Int32) <<< (x5 &&& 31))) σ)) = some r := h
  refine lv_iload hx hb dX12_compound_151 (lv_at hl 4 rfl) ?_
  refine lv_iload hx hb dX12_compound_153 (lv_at hl 6 rfl) ?_
  refine lv_if_eq (tgt := 165) hx hb dX12_compound_155 rfl (fun hc => ?_) (fun hc => ?_)
  · have h := ip hc h
    refine lv_iconst (v := (0:Int32)) hx hb dX12_compound_165 (by decide) ?_
    exact N_compound_166 X hP hk61 (lv_sub hl [0, 1, 2, 3, 5] rfl) h
  · have h := ine hc h
    refine lv_iconst (v := (1:Int32)) hx hb dX12_compound_158 (by decide) ?_
    refine lv_iload hx hb dX12_compound_159 (lv_at hl 5 rfl) ?_
    refine lv_ishl hx hb dX12_compound_161 ?_
    refine lv_goto (tgt := 166) hx hb dX12_compound_162 rfl ?_
    exact N_compound_166 X hP hk61 (lv_sub hl [0, 1, 2, 3, 5] rfl) h
set_option maxRecDepth 20000 in
set_option maxHeartbeats 4000000 in
theorem N_compound_106 {p : Program} {l : Launch} {e : Env} {s : State} {m : MethodId} {args : Array Value} {below : List Frame} {meth : Method} {c : Code} {D : mD} {mb : Nat} {k61 : Int32 → Int32 → Int32 → Int32 → Int32 → Option (Int32)} {n : Nat} {x1 : Int32} {x2 : Int32} {x3 : Int32} {x4 : Int32} {x5 : Int32} {x6 : Int32} {x7 : Int32} {σ : mS} {ls : Array Slot} {r : Int32} (X : mX p s m args meth c cX12_compound 8 (some .int) D) (hP : mP D mb σ s.heap) (hk61 : ∀ {x1 : Int32} {x2 : Int32} {x3 : Int32} {x4 : Int32} {x5 : Int32} {ls : Array Slot}, lv_has ls 8 [(0, .ref mb), (1, .int x1), (2, .int x2), (3, .int x3), (4, .int x4), (5, .int x5)] → k61 x1 x2 x3 x4 x5 = some r → mWr p l e 4 95 s m args below meth c (some (.int r)) (F0 m 61 ls [])) (hl : lv_has ls 8 [(0, .ref mb), (1, .int x1), (2, .int x2), (3, .int x3), (4, .int x4), (5, .int x5), (6, .int x6), (7, .int x7)]) (h : f_compound_106 k61 n x1 x2 x3 x4 x5 x6 x7 σ = some r) : mWr p l e 4 95 s m args below meth c (some (.int r)) (F0 m 106 ls []) := by
  have hx := X.1
  have hb := X.2.1
  have hown := X.2.2.2.1
  have hts := X.2.2.2.2.1
  induction n generalizing x1 x2 x3 x4 x5 x6 x7 ls with
  | zero => exact absurd (show none = some r from h) (by simp)
  | succ n ih =>
    have h : ((rd σ 16 (((4:Int32) * x1) + x2)).bind (fun v1 => if v1 ≤ x7 then (f_compound_151 k61 (x1) (x2) (x3) (x4) (x5) (x6) σ) else (if x6 = (0:Int32) then (f_compound_151 k61 (x1) (x2) (x3) (x4) (x5) (x6) σ) else ((f_passes (((((16:Int32) * x1) + ((4:Int32) * x2)) + x7)) (x5) σ).bind (fun v2 => f_compound_106 k61 n (x1) (x2) (x3) (x4) (x5) (v2) ((x7 + (1:Int32))) σ))))) = some r := h
    refine lv_iload hx hb dX12_compound_106 (lv_at hl 7 rfl) ?_
    refine lv_aload_n hx hb dX12_compound_108 rfl (lv_at hl 0 rfl) ?_
    refine mg_nt X hP dX12_compound_109 ?_
    refine lv_iconst (v := (4:Int32)) hx hb dX12_compound_112 (by decide) ?_
    refine lv_iload_n hx hb dX12_compound_113 rfl (lv_at hl 1 rfl) ?_
    refine lv_imul hx hb dX12_compound_114 ?_
    refine lv_iload_n hx hb dX12_compound_115 rfl (lv_at hl 2 rfl) ?_
    refine lv_iadd hx hb dX12_compound_116 ?_
    obtain ⟨v1, hv1, h⟩ := ob h
    refine m_ald X hP hv1 dX12_compound_117 ?_
    refine lv_icmp_ge (tgt := 151) hx hb dX12_compound_118 rfl (fun hc => ?_) (fun hc => ?_)
    · have h := ip hc h
      exact N_compound_151 X hP hk61 (lv_sub hl [0, 1, 2, 3, 4, 5, 6] rfl) h
    · have h := ine hc h
      refine lv_iload hx hb dX12_compound_121 (lv_at hl 6 rfl) ?_
      refine lv_if_eq (tgt := 151) hx hb dX12_compound_123 rfl (fun hc => ?_) (fun hc => ?_)
      · have h := ip hc h
        exact N_compound_151 X hP hk61 (lv_sub hl [0, 1, 2, 3, 4, 5, 6] rfl) h
      · have h := ine hc h
        refine lv_aload_n hx hb dX12_compound_126 rfl (lv_at hl 0 rfl) ?_
        refine lv_bipush (v := (16:Int32)) hx hb dX12_compound_127 (by decide) ?_
        refine lv_iload_n hx hb dX12_compound_129 rfl (lv_at hl 1 rfl) ?_
        refine lv_imul hx hb dX12_compound_130 ?_
        refine lv_iconst (v := (4:Int32)) hx hb dX12_compound_131 (by decide) ?_
        refine lv_iload_n hx hb dX12_compound_132 rfl (lv_at hl 2 rfl) ?_
        refine lv_imul hx hb dX12_compound_133 ?_
        refine lv_iadd hx hb dX12_compound_134 ?_
        refine lv_iload hx hb dX12_compound_135 (lv_at hl 7 rfl) ?_
        refine lv_iadd hx hb dX12_compound_137 ?_
        refine lv_iload hx hb dX12_compound_138 (lv_at hl 5 rfl) ?_
        obtain ⟨v2, hv2, h⟩ := ob h
        refine cl_passes X hP hv2 ⟨Nat.le_of_ble_eq_true rfl, Nat.le_of_ble_eq_true rfl⟩ hl.1 (Nat.le_of_ble_eq_true rfl) dX12_compound_140 ?_
        refine lv_istore hx hb dX12_compound_143 hl (Nat.le_of_ble_eq_true rfl) rfl (fun ls (hl : lv_has ls 8 [(6, .int v2), (0, .ref mb), (1, .int x1), (2, .int x2), (3, .int x3), (4, .int x4), (5, .int x5), (7, .int x7)]) => ?_)
        refine lv_iinc (v := (x7 + (1:Int32))) hx hb dX12_compound_145 hl (k := 7) rfl rfl (Nat.le_of_ble_eq_true rfl) rfl (fun ls (hl : lv_has ls 8 [(7, .int (x7 + (1:Int32))), (6, .int v2), (0, .ref mb), (1, .int x1), (2, .int x2), (3, .int x3), (4, .int x4), (5, .int x5)]) => ?_)
        refine lv_goto (tgt := 106) hx hb dX12_compound_148 rfl ?_
        exact ih (lv_sub hl [2, 3, 4, 5, 6, 7, 1, 0] rfl) h
set_option maxRecDepth 20000 in
set_option maxHeartbeats 4000000 in
theorem N_compound_101 {p : Program} {l : Launch} {e : Env} {s : State} {m : MethodId} {args : Array Value} {below : List Frame} {meth : Method} {c : Code} {D : mD} {mb : Nat} {k61 : Int32 → Int32 → Int32 → Int32 → Int32 → Option (Int32)}  {x1 : Int32} {x2 : Int32} {x3 : Int32} {x4 : Int32} {x5 : Int32} {y0 : Int32} {σ : mS} {ls : Array Slot} {r : Int32} (X : mX p s m args meth c cX12_compound 8 (some .int) D) (hP : mP D mb σ s.heap) (hk61 : ∀ {x1 : Int32} {x2 : Int32} {x3 : Int32} {x4 : Int32} {x5 : Int32} {ls : Array Slot}, lv_has ls 8 [(0, .ref mb), (1, .int x1), (2, .int x2), (3, .int x3), (4, .int x4), (5, .int x5)] → k61 x1 x2 x3 x4 x5 = some r → mWr p l e 4 95 s m args below meth c (some (.int r)) (F0 m 61 ls [])) (hl : lv_has ls 8 [(0, .ref mb), (1, .int x1), (2, .int x2), (3, .int x3), (4, .int x4), (5, .int x5)]) (h : f_compound_101 k61 x1 x2 x3 x4 x5 y0 σ = some r) : mWr p l e 4 95 s m args below meth c (some (.int r)) (F0 m 101 ls [.int y0]) := by
  have hx := X.1
  have hb := X.2.1
  have hown := X.2.2.2.1
  have hts := X.2.2.2.2.1
  have h : (f_compound_106 k61 4000 (x1) (x2) (x3) (x4) (x5) (y0) ((0:Int32)) σ) = some r := h
  refine lv_istore hx hb dX12_compound_101 hl (Nat.le_of_ble_eq_true rfl) rfl (fun ls (hl : lv_has ls 8 [(6, .int y0), (0, .ref mb), (1, .int x1), (2, .int x2), (3, .int x3), (4, .int x4), (5, .int x5)]) => ?_)
  refine lv_iconst (v := (0:Int32)) hx hb dX12_compound_103 (by decide) ?_
  refine lv_istore hx hb dX12_compound_104 hl (Nat.le_of_ble_eq_true rfl) rfl (fun ls (hl : lv_has ls 8 [(7, .int (0:Int32)), (6, .int y0), (0, .ref mb), (1, .int x1), (2, .int x2), (3, .int x3), (4, .int x4), (5, .int x5)]) => ?_)
  exact N_compound_106 X hP hk61 (lv_sub hl [2, 3, 4, 5, 6, 7, 1, 0] rfl) h
set_option maxRecDepth 20000 in
set_option maxHeartbeats 4000000 in
theorem N_compound_61 {p : Program} {l : Launch} {e : Env} {s : State} {m : MethodId} {args : Array Value} {below : List Frame} {meth : Method} {c : Code} {D : mD} {mb : Nat}  {n : Nat} {x1 : Int32} {x2 : Int32} {x3 : Int32} {x4 : Int32} {x5 : Int32} {σ : mS} {ls : Array Slot} {r : Int32} (X : mX p s m args meth c cX12_compound 8 (some .int) D) (hP : mP D mb σ s.heap)  (hl : lv_has ls 8 [(0, .ref mb), (1, .int x1), (2, .int x2), (3, .int x3), (4, .int x4), (5, .int x5)]) (h : f_compound_61  n x1 x2 x3 x4 x5 σ = some r) : mWr p l e 4 95 s m args below meth c (some (.int r)) (F0 m 61 ls []) := by
  have hx := X.1
  have hb := X.2.1
  have hown := X.2.2.2.1
  have hts := X.2.2.2.2.1
  induction n generalizing x1 x2 x3 x4 x5 ls with
  | zero => exact absurd (show none = some r from h) (by simp)
  | succ n ih =>
    have h : (if (σ.2 13) ≤ x5 then (some x4) else (if x3 = (0:Int32) then ((f_bit ((σ.2 72)) (x5)).bind (fun v1 => f_compound_101 (fun z0 z1 z2 z3 z4 => f_compound_61 n z0 z1 z2 z3 z4 σ) (x1) (x2) (x3) (x4) (x5) (v1) σ)) else (if x5 = (σ.2 71) then (f_compound_101 (fun z0 z1 z2 z3 z4 => f_compound_61 n z0 z1 z2 z3 z4 σ) (x1) (x2) (x3) (x4) (x5) ((1:Int32)) σ) else (f_compound_101 (fun z0 z1 z2 z3 z4 => f_compound_61 n z0 z1 z2 z3 z4 σ) (x1) (x2) (x3) (x4) (x5) ((0:Int32)) σ)))) = some r := h
    refine lv_iload hx hb dX12_compound_61 (lv_at hl 5 rfl) ?_
    refine lv_aload_n hx hb dX12_compound_63 rfl (lv_at hl 0 rfl) ?_
    refine mg_made X hP dX12_compound_64 ?_
    refine lv_icmp_ge (tgt := 175) hx hb dX12_compound_67 rfl (fun hc => ?_) (fun hc => ?_)
    · have h := ip hc h
      refine lv_iload hx hb dX12_compound_175 (lv_at hl 4 rfl) ?_
      obtain rfl := sj h
      exact m_ri X dX12_compound_177
    · have h := ine hc h
      refine lv_iload_n hx hb dX12_compound_70 rfl (lv_at hl 3 rfl) ?_
      refine lv_if_eq (tgt := 91) hx hb dX12_compound_71 rfl (fun hc => ?_) (fun hc => ?_)
      · have h := ip hc h
        refine lv_aload_n hx hb dX12_compound_91 rfl (lv_at hl 0 rfl) ?_
        refine lv_aload_n hx hb dX12_compound_92 rfl (lv_at hl 0 rfl) ?_
        refine mg_members X hP dX12_compound_93 ?_
        refine lv_iload hx hb dX12_compound_96 (lv_at hl 5 rfl) ?_
        obtain ⟨v1, hv1, h⟩ := ob h
        refine cl_bit X hP hv1 ⟨Nat.le_of_ble_eq_true rfl, Nat.le_of_ble_eq_true rfl⟩ hl.1 (Nat.le_of_ble_eq_true rfl) dX12_compound_98 ?_
        exact N_compound_101 X hP ih (lv_sub hl [0, 1, 2, 3, 4, 5] rfl) h
      · have h := ine hc h
        refine lv_iload hx hb dX12_compound_74 (lv_at hl 5 rfl) ?_
        refine lv_aload_n hx hb dX12_compound_76 rfl (lv_at hl 0 rfl) ?_
        refine mg_tree X hP dX12_compound_77 ?_
        refine lv_icmp_ne (tgt := 87) hx hb dX12_compound_80 rfl (fun hc => ?_) (fun hc => ?_)
        · have h := ine hc h
          refine lv_iconst (v := (0:Int32)) hx hb dX12_compound_87 (by decide) ?_
          refine lv_goto (tgt := 101) hx hb dX12_compound_88 rfl ?_
          exact N_compound_101 X hP ih (lv_sub hl [0, 1, 2, 3, 4, 5] rfl) h
        · have h := ip hc h
          refine lv_iconst (v := (1:Int32)) hx hb dX12_compound_83 (by decide) ?_
          refine lv_goto (tgt := 101) hx hb dX12_compound_84 rfl ?_
          exact N_compound_101 X hP ih (lv_sub hl [0, 1, 2, 3, 4, 5] rfl) h
set_option maxRecDepth 20000 in
set_option maxHeartbeats 4000000 in
theorem N_compound_50 {p : Program} {l : Launch} {e : Env} {s : State} {m : MethodId} {args : Array Value} {below : List Frame} {meth : Method} {c : Code} {D : mD} {mb : Nat} {k8 : Int32 → Int32 → Int32 → Int32 → Int32 → Option (Int32)}  {x1 : Int32} {x2 : Int32} {x4 : Int32} {x5 : Int32} {y0 : Int32} {y1 : Int32} {σ : mS} {ls : Array Slot} {r : Int32} (X : mX p s m args meth c cX12_compound 8 (some .int) D) (hP : mP D mb σ s.heap) (hk8 : ∀ {x1 : Int32} {x2 : Int32} {x3 : Int32} {x4 : Int32} {x5 : Int32} {ls : Array Slot}, lv_has ls 8 [(0, .ref mb), (1, .int x1), (2, .int x2), (3, .int x3), (4, .int x4), (5, .int x5)] → k8 x1 x2 x3 x4 x5 = some r → mWr p l e 4 95 s m args below meth c (some (.int r)) (F0 m 8 ls [])) (hl : lv_has ls 8 [(0, .ref mb), (1, .int x1), (2, .int x2), (4, .int x4), (5, .int x5)]) (h : f_compound_50 k8 x1 x2 x4 x5 y0 y1 σ = some r) : mWr p l e 4 95 s m args below meth c (some (.int r)) (F0 m 50 ls [.int y1, .int y0]) := by
  have hx := X.1
  have hb := X.2.1
  have hown := X.2.2.2.1
  have hts := X.2.2.2.2.1
  have h : (k8 (x1) (x2) ((y0 ||| y1)) (x4) ((x5 + (1:Int32)))) = some r := h
  refine lv_ior hx hb dX12_compound_50 ?_
  refine lv_istore_n hx hb dX12_compound_51 rfl hl (Nat.le_of_ble_eq_true rfl) rfl (fun ls (hl : lv_has ls 8 [(3, .int (y0 ||| y1)), (0, .ref mb), (1, .int x1), (2, .int x2), (4, .int x4), (5, .int x5)]) => ?_)
  refine lv_iinc (v := (x5 + (1:Int32))) hx hb dX12_compound_52 hl (k := 5) rfl rfl (Nat.le_of_ble_eq_true rfl) rfl (fun ls (hl : lv_has ls 8 [(5, .int (x5 + (1:Int32))), (3, .int (y0 ||| y1)), (0, .ref mb), (1, .int x1), (2, .int x2), (4, .int x4)]) => ?_)
  refine lv_goto (tgt := 8) hx hb dX12_compound_55 rfl ?_
  exact hk8 (lv_sub hl [2, 3, 4, 1, 5, 0] rfl) h
set_option maxRecDepth 20000 in
set_option maxHeartbeats 4000000 in
theorem N_compound_8 {p : Program} {l : Launch} {e : Env} {s : State} {m : MethodId} {args : Array Value} {below : List Frame} {meth : Method} {c : Code} {D : mD} {mb : Nat}  {n : Nat} {x1 : Int32} {x2 : Int32} {x3 : Int32} {x4 : Int32} {x5 : Int32} {σ : mS} {ls : Array Slot} {r : Int32} (X : mX p s m args meth c cX12_compound 8 (some .int) D) (hP : mP D mb σ s.heap)  (hl : lv_has ls 8 [(0, .ref mb), (1, .int x1), (2, .int x2), (3, .int x3), (4, .int x4), (5, .int x5)]) (h : f_compound_8  n x1 x2 x3 x4 x5 σ = some r) : mWr p l e 4 95 s m args below meth c (some (.int r)) (F0 m 8 ls []) := by
  have hx := X.1
  have hb := X.2.1
  have hown := X.2.2.2.1
  have hts := X.2.2.2.2.1
  induction n generalizing x1 x2 x3 x4 x5 ls with
  | zero => exact absurd (show none = some r from h) (by simp)
  | succ n ih =>
    have h : ((rd σ 16 (((4:Int32) * x1) + x2)).bind (fun v1 => if v1 ≤ x5 then (f_compound_61 4000 (x1) (x2) (x3) (x4) ((0:Int32)) σ) else ((rd σ 17 ((((16:Int32) * x1) + ((4:Int32) * x2)) + x5)).bind (fun v2 => if v2 = (8:Int32) then (f_compound_50 (fun z0 z1 z2 z3 z4 => f_compound_8 n z0 z1 z2 z3 z4 σ) (x1) (x2) (x4) (x5) (x3) ((1:Int32)) σ) else (f_compound_50 (fun z0 z1 z2 z3 z4 => f_compound_8 n z0 z1 z2 z3 z4 σ) (x1) (x2) (x4) (x5) (x3) ((0:Int32)) σ))))) = some r := h
    refine lv_iload hx hb dX12_compound_8 (lv_at hl 5 rfl) ?_
    refine lv_aload_n hx hb dX12_compound_10 rfl (lv_at hl 0 rfl) ?_
    refine mg_nt X hP dX12_compound_11 ?_
    refine lv_iconst (v := (4:Int32)) hx hb dX12_compound_14 (by decide) ?_
    refine lv_iload_n hx hb dX12_compound_15 rfl (lv_at hl 1 rfl) ?_
    refine lv_imul hx hb dX12_compound_16 ?_
    refine lv_iload_n hx hb dX12_compound_17 rfl (lv_at hl 2 rfl) ?_
    refine lv_iadd hx hb dX12_compound_18 ?_
    obtain ⟨v1, hv1, h⟩ := ob h
    refine m_ald X hP hv1 dX12_compound_19 ?_
    refine lv_icmp_ge (tgt := 58) hx hb dX12_compound_20 rfl (fun hc => ?_) (fun hc => ?_)
    · have h := ip hc h
      refine lv_iconst (v := (0:Int32)) hx hb dX12_compound_58 (by decide) ?_
      refine lv_istore hx hb dX12_compound_59 hl (Nat.le_of_ble_eq_true rfl) rfl (fun ls (hl : lv_has ls 8 [(5, .int (0:Int32)), (0, .ref mb), (1, .int x1), (2, .int x2), (3, .int x3), (4, .int x4)]) => ?_)
      exact N_compound_61 X hP (lv_sub hl [1, 2, 3, 4, 5, 0] rfl) h
    · have h := ine hc h
      refine lv_iload_n hx hb dX12_compound_23 rfl (lv_at hl 3 rfl) ?_
      refine lv_aload_n hx hb dX12_compound_24 rfl (lv_at hl 0 rfl) ?_
      refine mg_tk X hP dX12_compound_25 ?_
      refine lv_bipush (v := (16:Int32)) hx hb dX12_compound_28 (by decide) ?_
      refine lv_iload_n hx hb dX12_compound_30 rfl (lv_at hl 1 rfl) ?_
      refine lv_imul hx hb dX12_compound_31 ?_
      refine lv_iconst (v := (4:Int32)) hx hb dX12_compound_32 (by decide) ?_
      refine lv_iload_n hx hb dX12_compound_33 rfl (lv_at hl 2 rfl) ?_
      refine lv_imul hx hb dX12_compound_34 ?_
      refine lv_iadd hx hb dX12_compound_35 ?_
      refine lv_iload hx hb dX12_compound_36 (lv_at hl 5 rfl) ?_
      refine lv_iadd hx hb dX12_compound_38 ?_
      obtain ⟨v2, hv2, h⟩ := ob h
      refine m_ald X hP hv2 dX12_compound_39 ?_
      refine lv_bipush (v := (8:Int32)) hx hb dX12_compound_40 (by decide) ?_
      refine lv_icmp_ne (tgt := 49) hx hb dX12_compound_42 rfl (fun hc => ?_) (fun hc => ?_)
      · have h := ine hc h
        refine lv_iconst (v := (0:Int32)) hx hb dX12_compound_49 (by decide) ?_
        exact N_compound_50 X hP ih (lv_sub hl [0, 1, 2, 4, 5] rfl) h
      · have h := ip hc h
        refine lv_iconst (v := (1:Int32)) hx hb dX12_compound_45 (by decide) ?_
        refine lv_goto (tgt := 50) hx hb dX12_compound_46 rfl ?_
        exact N_compound_50 X hP ih (lv_sub hl [0, 1, 2, 4, 5] rfl) h
set_option maxRecDepth 20000 in
set_option maxHeartbeats 4000000 in
theorem K_compound (l : Launch) (D : mD) (mb : Nat) (σ : mS) (x1 : Int32) (x2 : Int32) {r : Int32} (h : f_compound x1 x2 σ = some r) : Met l yX12_compound (Cond.code yX12_compound cX12_compound 8 (some .int) :: BG) (rM 4 95) (mPc D mb σ [.int x1, .int x2]) (mQr (some (.int r))) 0 0 (fun _ => False) := by
  refine Met.ofW (cc := cX12_compound) (maxL := 8) (ret := (some .int)) (by decide) rfl ?_
  intro p e s m args below meth c s₁ B hml hv
  obtain ⟨rfl, hP, hK⟩ := hv
  have X := mX_of B hml rfl hK
  have hx := X.1
  have hb := X.2.1
  have hown := X.2.2.2.1
  have hts := X.2.2.2.2.1
  have hl := lv_entry (.ref mb :: [.int x1, .int x2]) (n := 8) (Nat.le_of_ble_eq_true rfl)
  rw [lg_entry_eq]
  generalize (lg_sl (.ref mb :: [.int x1, .int x2]) ++ List.replicate (8 - (lg_sl (.ref mb :: [.int x1, .int x2])).length) Slot.unset).toArray = ls at hl ⊢
  have hl : lv_has ls 8 [(0, .ref mb), (1, .int x1), (2, .int x2)] := hl
  show mWr p l e 4 95 s m (Value.ref mb :: [.int x1, .int x2]).toArray below meth c (some (.int r)) (F0 m 0 ls [])
  have h : (f_compound_8 4000 (x1) (x2) ((0:Int32)) ((0:Int32)) ((0:Int32)) σ) = some r := h
  refine lv_iconst (v := (0:Int32)) hx hb dX12_compound_0 (by decide) ?_
  refine lv_istore_n hx hb dX12_compound_1 rfl hl (Nat.le_of_ble_eq_true rfl) rfl (fun ls (hl : lv_has ls 8 [(3, .int (0:Int32)), (0, .ref mb), (1, .int x1), (2, .int x2)]) => ?_)
  refine lv_iconst (v := (0:Int32)) hx hb dX12_compound_2 (by decide) ?_
  refine lv_istore hx hb dX12_compound_3 hl (Nat.le_of_ble_eq_true rfl) rfl (fun ls (hl : lv_has ls 8 [(4, .int (0:Int32)), (3, .int (0:Int32)), (0, .ref mb), (1, .int x1), (2, .int x2)]) => ?_)
  refine lv_iconst (v := (0:Int32)) hx hb dX12_compound_5 (by decide) ?_
  refine lv_istore hx hb dX12_compound_6 hl (Nat.le_of_ble_eq_true rfl) rfl (fun ls (hl : lv_has ls 8 [(5, .int (0:Int32)), (4, .int (0:Int32)), (3, .int (0:Int32)), (0, .ref mb), (1, .int x1), (2, .int x2)]) => ?_)
  exact N_compound_8 X hP (lv_sub hl [3, 4, 5, 2, 1, 0] rfl) h
theorem cl_compound {p : Program} {l : Launch} {e : Env} {s : State} {m : MethodId} {args : Array Value} {below : List Frame} {meth : Method} {c : Code} {D : mD} {mb : Nat} {H : Heap} {locs : List Loc} {Q : State → Prop} {cc : ByteArray} {pc fR lR nL : Nat} {ls : Array Slot} {rest : List Value} {ret : Option FieldType} {σ : mS} (X : mX p s m args meth c cc nL ret D) (hP : mP D mb σ H) {x1 : Int32} {x2 : Int32} {r : Int32} (h : f_compound x1 x2 σ = some r) (hr : 4 + 1 ≤ fR ∧ 8 + (8 + 11) + 95 ≤ lR) (hl : ls.size = nL) (hW : (rest.map fun v => v.category).sum ≤ 8) (hdg : decode cc pc = .ok (.invokevirtual 306, 3)) (kk : W p l e (rM fR lR) s m args below meth c H locs 0 0 Q (F0 m (pc + 3) ls (.int r :: rest))) : W p l e (rM fR lR) s m args below meth c H locs 0 0 Q (F0 m pc ls (.int x2 :: .int x1 :: .ref mb :: rest)) := m_cr (m_run (n := 2) X (K_compound l D mb σ x1 x2 h) ⟨w_2035, w_2037, w_89, w_2038⟩ (hyX rfl (by decide +kernel)) rfl hr hP hl hW hdg rfl) kk
-- stepped(III)I
def f_stepped_93 (k6 : Int32 → Int32 → Int32 → Int32 → Int32 → Option (Int32)) (x1 : Int32) (x2 : Int32) (x3 : Int32) (x5 : Int32) (y0 : Int32) (y1 : Int32) (σ : mS) : Option (Int32) := k6 (x1) (x2) (x3) ((y0 ||| y1)) ((x5 + (1:Int32)))
def f_stepped_78 (k6 : Int32 → Int32 → Int32 → Int32 → Int32 → Option (Int32)) (x1 : Int32) (x2 : Int32) (x3 : Int32) (x4 : Int32) (x5 : Int32) (x6 : Int32) (σ : mS) : Option (Int32) := if x6 = (0:Int32) then (f_stepped_93 k6 (x1) (x2) (x3) (x5) (x4) ((0:Int32)) σ) else (f_stepped_93 k6 (x1) (x2) (x3) (x5) (x4) (((1:Int32) <<< (x5 &&& 31))) σ)
def f_stepped_69 (k6 : Int32 → Int32 → Int32 → Int32 → Int32 → Option (Int32)) (k21 : Int32 → Int32 → Int32 → Int32 → Int32 → Int32 → Int32 → Option (Int32)) (x1 : Int32) (x2 : Int32) (x3 : Int32) (x4 : Int32) (x5 : Int32) (x7 : Int32) (y0 : Int32) (y1 : Int32) (σ : mS) : Option (Int32) := k21 (x1) (x2) (x3) (x4) (x5) ((y0 ||| y1)) ((x7 + (1:Int32)))
def f_stepped_68 (k6 : Int32 → Int32 → Int32 → Int32 → Int32 → Option (Int32)) (k21 : Int32 → Int32 → Int32 → Int32 → Int32 → Int32 → Int32 → Option (Int32)) (x1 : Int32) (x2 : Int32) (x3 : Int32) (x4 : Int32) (x5 : Int32) (x7 : Int32) (y0 : Int32) (σ : mS) : Option (Int32) := f_stepped_69 k6 k21 (x1) (x2) (x3) (x4) (x5) (x7) (y0) ((0:Int32)) σ
def f_stepped_21 (k6 : Int32 → Int32 → Int32 → Int32 → Int32 → Option (Int32)) : Nat → Int32 → Int32 → Int32 → Int32 → Int32 → Int32 → Int32 → mS → Option (Int32)
  | 0, _, _, _, _, _, _, _, _ => none
  | n + 1, x1, x2, x3, x4, x5, x6, x7, σ => if (σ.2 13) ≤ x7 then (f_stepped_78 k6 (x1) (x2) (x3) (x4) (x5) (x6) σ) else ((f_bit (x2) (x5)).bind (fun v1 => if v1 = (0:Int32) then (f_stepped_78 k6 (x1) (x2) (x3) (x4) (x5) (x6) σ) else ((f_bit (x1) (x7)).bind (fun v2 => if v2 = (0:Int32) then (f_stepped_68 k6 (fun z0 z1 z2 z3 z4 z5 z6 => f_stepped_21 k6 n z0 z1 z2 z3 z4 z5 z6 σ) (x1) (x2) (x3) (x4) (x5) (x7) (x6) σ) else ((f_related (x3) (x5) (x7) σ).bind (fun v3 => if v3 = (0:Int32) then (f_stepped_68 k6 (fun z0 z1 z2 z3 z4 z5 z6 => f_stepped_21 k6 n z0 z1 z2 z3 z4 z5 z6 σ) (x1) (x2) (x3) (x4) (x5) (x7) (x6) σ) else (f_stepped_69 k6 (fun z0 z1 z2 z3 z4 z5 z6 => f_stepped_21 k6 n z0 z1 z2 z3 z4 z5 z6 σ) (x1) (x2) (x3) (x4) (x5) (x7) (x6) ((1:Int32)) σ)))))))
def f_stepped_6  : Nat → Int32 → Int32 → Int32 → Int32 → Int32 → mS → Option (Int32)
  | 0, _, _, _, _, _, _ => none
  | n + 1, x1, x2, x3, x4, x5, σ => if (σ.2 13) ≤ x5 then (some x4) else (f_stepped_21 (fun z0 z1 z2 z3 z4 => f_stepped_6 n z0 z1 z2 z3 z4 σ) 4000 (x1) (x2) (x3) (x4) (x5) ((0:Int32)) ((0:Int32)) σ)
def f_stepped (x1 : Int32) (x2 : Int32) (x3 : Int32) (σ : mS) : Option (Int32) := f_stepped_6 4000 (x1) (x2) (x3) ((0:Int32)) ((0:Int32)) σ
set_option maxRecDepth 20000 in
set_option maxHeartbeats 4000000 in
theorem N_stepped_93 {p : Program} {l : Launch} {e : Env} {s : State} {m : MethodId} {args : Array Value} {below : List Frame} {meth : Method} {c : Code} {D : mD} {mb : Nat} {k6 : Int32 → Int32 → Int32 → Int32 → Int32 → Option (Int32)}  {x1 : Int32} {x2 : Int32} {x3 : Int32} {x5 : Int32} {y0 : Int32} {y1 : Int32} {σ : mS} {ls : Array Slot} {r : Int32} (X : mX p s m args meth c cX12_stepped 8 (some .int) D) (hP : mP D mb σ s.heap) (hk6 : ∀ {x1 : Int32} {x2 : Int32} {x3 : Int32} {x4 : Int32} {x5 : Int32} {ls : Array Slot}, lv_has ls 8 [(0, .ref mb), (1, .int x1), (2, .int x2), (3, .int x3), (4, .int x4), (5, .int x5)] → k6 x1 x2 x3 x4 x5 = some r → mWr p l e 2 46 s m args below meth c (some (.int r)) (F0 m 6 ls [])) (hl : lv_has ls 8 [(0, .ref mb), (1, .int x1), (2, .int x2), (3, .int x3), (5, .int x5)]) (h : f_stepped_93 k6 x1 x2 x3 x5 y0 y1 σ = some r) : mWr p l e 2 46 s m args below meth c (some (.int r)) (F0 m 93 ls [.int y1, .int y0]) := by
  have hx := X.1
  have hb := X.2.1
  have hown := X.2.2.2.1
  have hts := X.2.2.2.2.1
  have h : (k6 (x1) (x2) (x3) ((y0 ||| y1)) ((x5 + (1:Int32)))) = some r := h
  refine lv_ior hx hb dX12_stepped_93 ?_
  refine lv_istore hx hb dX12_stepped_94 hl (Nat.le_of_ble_eq_true rfl) rfl (fun ls (hl : lv_has ls 8 [(4, .int (y0 ||| y1)), (0, .ref mb), (1, .int x1), (2, .int x2), (3, .int x3), (5, .int x5)]) => ?_)
  refine lv_iinc (v := (x5 + (1:Int32))) hx hb dX12_stepped_96 hl (k := 5) rfl rfl (Nat.le_of_ble_eq_true rfl) rfl (fun ls (hl : lv_has ls 8 [(5, .int (x5 + (1:Int32))), (4, .int (y0 ||| y1)), (0, .ref mb), (1, .int x1), (2, .int x2), (3, .int x3)]) => ?_)
  refine lv_goto (tgt := 6) hx hb dX12_stepped_99 rfl ?_
  exact hk6 (lv_sub hl [2, 3, 4, 5, 1, 0] rfl) h
set_option maxRecDepth 20000 in
set_option maxHeartbeats 4000000 in
theorem N_stepped_78 {p : Program} {l : Launch} {e : Env} {s : State} {m : MethodId} {args : Array Value} {below : List Frame} {meth : Method} {c : Code} {D : mD} {mb : Nat} {k6 : Int32 → Int32 → Int32 → Int32 → Int32 → Option (Int32)}  {x1 : Int32} {x2 : Int32} {x3 : Int32} {x4 : Int32} {x5 : Int32} {x6 : Int32} {σ : mS} {ls : Array Slot} {r : Int32} (X : mX p s m args meth c cX12_stepped 8 (some .int) D) (hP : mP D mb σ s.heap) (hk6 : ∀ {x1 : Int32} {x2 : Int32} {x3 : Int32} {x4 : Int32} {x5 : Int32} {ls : Array Slot}, lv_has ls 8 [(0, .ref mb), (1, .int x1), (2, .int x2), (3, .int x3), (4, .int x4), (5, .int x5)] → k6 x1 x2 x3 x4 x5 = some r → mWr p l e 2 46 s m args below meth c (some (.int r)) (F0 m 6 ls [])) (hl : lv_has ls 8 [(0, .ref mb), (1, .int x1), (2, .int x2), (3, .int x3), (4, .int x4), (5, .int x5), (6, .int x6)]) (h : f_stepped_78 k6 x1 x2 x3 x4 x5 x6 σ = some r) : mWr p l e 2 46 s m args below meth c (some (.int r)) (F0 m 78 ls []) := by
  have hx := X.1
  have hb := X.2.1
  have hown := X.2.2.2.1
  have hts := X.2.2.2.2.1
  have h : (if x6 = (0:Int32) then (f_stepped_93 k6 (x1) (x2) (x3) (x5) (x4) ((0:Int32)) σ) else (f_stepped_93 k6 (x1) (x2) (x3) (x5) (x4) (((1:Int32) <<< (x5 &&& 31))) σ)) = some r := h
  refine lv_iload hx hb dX12_stepped_78 (lv_at hl 4 rfl) ?_
  refine lv_iload hx hb dX12_stepped_80 (lv_at hl 6 rfl) ?_
  refine lv_if_eq (tgt := 92) hx hb dX12_stepped_82 rfl (fun hc => ?_) (fun hc => ?_)
  · have h := ip hc h
    refine lv_iconst (v := (0:Int32)) hx hb dX12_stepped_92 (by decide) ?_
    exact N_stepped_93 X hP hk6 (lv_sub hl [0, 1, 2, 3, 5] rfl) h
  · have h := ine hc h
    refine lv_iconst (v := (1:Int32)) hx hb dX12_stepped_85 (by decide) ?_
    refine lv_iload hx hb dX12_stepped_86 (lv_at hl 5 rfl) ?_
    refine lv_ishl hx hb dX12_stepped_88 ?_
    refine lv_goto (tgt := 93) hx hb dX12_stepped_89 rfl ?_
    exact N_stepped_93 X hP hk6 (lv_sub hl [0, 1, 2, 3, 5] rfl) h
set_option maxRecDepth 20000 in
set_option maxHeartbeats 4000000 in
theorem N_stepped_69 {p : Program} {l : Launch} {e : Env} {s : State} {m : MethodId} {args : Array Value} {below : List Frame} {meth : Method} {c : Code} {D : mD} {mb : Nat} {k6 : Int32 → Int32 → Int32 → Int32 → Int32 → Option (Int32)} {k21 : Int32 → Int32 → Int32 → Int32 → Int32 → Int32 → Int32 → Option (Int32)}  {x1 : Int32} {x2 : Int32} {x3 : Int32} {x4 : Int32} {x5 : Int32} {x7 : Int32} {y0 : Int32} {y1 : Int32} {σ : mS} {ls : Array Slot} {r : Int32} (X : mX p s m args meth c cX12_stepped 8 (some .int) D) (hP : mP D mb σ s.heap) (hk6 : ∀ {x1 : Int32} {x2 : Int32} {x3 : Int32} {x4 : Int32} {x5 : Int32} {ls : Array Slot}, lv_has ls 8 [(0, .ref mb), (1, .int x1), (2, .int x2), (3, .int x3), (4, .int x4), (5, .int x5)] → k6 x1 x2 x3 x4 x5 = some r → mWr p l e 2 46 s m args below meth c (some (.int r)) (F0 m 6 ls [])) (hk21 : ∀ {x1 : Int32} {x2 : Int32} {x3 : Int32} {x4 : Int32} {x5 : Int32} {x6 : Int32} {x7 : Int32} {ls : Array Slot}, lv_has ls 8 [(0, .ref mb), (1, .int x1), (2, .int x2), (3, .int x3), (4, .int x4), (5, .int x5), (6, .int x6), (7, .int x7)] → k21 x1 x2 x3 x4 x5 x6 x7 = some r → mWr p l e 2 46 s m args below meth c (some (.int r)) (F0 m 21 ls [])) (hl : lv_has ls 8 [(0, .ref mb), (1, .int x1), (2, .int x2), (3, .int x3), (4, .int x4), (5, .int x5), (7, .int x7)]) (h : f_stepped_69 k6 k21 x1 x2 x3 x4 x5 x7 y0 y1 σ = some r) : mWr p l e 2 46 s m args below meth c (some (.int r)) (F0 m 69 ls [.int y1, .int y0]) := by
  have hx := X.1
  have hb := X.2.1
  have hown := X.2.2.2.1
  have hts := X.2.2.2.2.1
  have h : (k21 (x1) (x2) (x3) (x4) (x5) ((y0 ||| y1)) ((x7 + (1:Int32)))) = some r := h
  refine lv_ior hx hb dX12_stepped_69 ?_
  refine lv_istore hx hb dX12_stepped_70 hl (Nat.le_of_ble_eq_true rfl) rfl (fun ls (hl : lv_has ls 8 [(6, .int (y0 ||| y1)), (0, .ref mb), (1, .int x1), (2, .int x2), (3, .int x3), (4, .int x4), (5, .int x5), (7, .int x7)]) => ?_)
  refine lv_iinc (v := (x7 + (1:Int32))) hx hb dX12_stepped_72 hl (k := 7) rfl rfl (Nat.le_of_ble_eq_true rfl) rfl (fun ls (hl : lv_has ls 8 [(7, .int (x7 + (1:Int32))), (6, .int (y0 ||| y1)), (0, .ref mb), (1, .int x1), (2, .int x2), (3, .int x3), (4, .int x4), (5, .int x5)]) => ?_)
  refine lv_goto (tgt := 21) hx hb dX12_stepped_75 rfl ?_
  exact hk21 (lv_sub hl [2, 3, 4, 5, 6, 7, 1, 0] rfl) h
set_option maxRecDepth 20000 in
set_option maxHeartbeats 4000000 in
theorem N_stepped_68 {p : Program} {l : Launch} {e : Env} {s : State} {m : MethodId} {args : Array Value} {below : List Frame} {meth : Method} {c : Code} {D : mD} {mb : Nat} {k6 : Int32 → Int32 → Int32 → Int32 → Int32 → Option (Int32)} {k21 : Int32 → Int32 → Int32 → Int32 → Int32 → Int32 → Int32 → Option (Int32)}  {x1 : Int32} {x2 : Int32} {x3 : Int32} {x4 : Int32} {x5 : Int32} {x7 : Int32} {y0 : Int32} {σ : mS} {ls : Array Slot} {r : Int32} (X : mX p s m args meth c cX12_stepped 8 (some .int) D) (hP : mP D mb σ s.heap) (hk6 : ∀ {x1 : Int32} {x2 : Int32} {x3 : Int32} {x4 : Int32} {x5 : Int32} {ls : Array Slot}, lv_has ls 8 [(0, .ref mb), (1, .int x1), (2, .int x2), (3, .int x3), (4, .int x4), (5, .int x5)] → k6 x1 x2 x3 x4 x5 = some r → mWr p l e 2 46 s m args below meth c (some (.int r)) (F0 m 6 ls [])) (hk21 : ∀ {x1 : Int32} {x2 : Int32} {x3 : Int32} {x4 : Int32} {x5 : Int32} {x6 : Int32} {x7 : Int32} {ls : Array Slot}, lv_has ls 8 [(0, .ref mb), (1, .int x1), (2, .int x2), (3, .int x3), (4, .int x4), (5, .int x5), (6, .int x6), (7, .int x7)] → k21 x1 x2 x3 x4 x5 x6 x7 = some r → mWr p l e 2 46 s m args below meth c (some (.int r)) (F0 m 21 ls [])) (hl : lv_has ls 8 [(0, .ref mb), (1, .int x1), (2, .int x2), (3, .int x3), (4, .int x4), (5, .int x5), (7, .int x7)]) (h : f_stepped_68 k6 k21 x1 x2 x3 x4 x5 x7 y0 σ = some r) : mWr p l e 2 46 s m args below meth c (some (.int r)) (F0 m 68 ls [.int y0]) := by
  have hx := X.1
  have hb := X.2.1
  have hown := X.2.2.2.1
  have hts := X.2.2.2.2.1
  have h : (f_stepped_69 k6 k21 (x1) (x2) (x3) (x4) (x5) (x7) (y0) ((0:Int32)) σ) = some r := h
  refine lv_iconst (v := (0:Int32)) hx hb dX12_stepped_68 (by decide) ?_
  exact N_stepped_69 X hP hk6 hk21 (lv_sub hl [0, 1, 2, 3, 4, 5, 6] rfl) h
set_option maxRecDepth 20000 in
set_option maxHeartbeats 4000000 in
theorem N_stepped_21 {p : Program} {l : Launch} {e : Env} {s : State} {m : MethodId} {args : Array Value} {below : List Frame} {meth : Method} {c : Code} {D : mD} {mb : Nat} {k6 : Int32 → Int32 → Int32 → Int32 → Int32 → Option (Int32)} {n : Nat} {x1 : Int32} {x2 : Int32} {x3 : Int32} {x4 : Int32} {x5 : Int32} {x6 : Int32} {x7 : Int32} {σ : mS} {ls : Array Slot} {r : Int32} (X : mX p s m args meth c cX12_stepped 8 (some .int) D) (hP : mP D mb σ s.heap) (hk6 : ∀ {x1 : Int32} {x2 : Int32} {x3 : Int32} {x4 : Int32} {x5 : Int32} {ls : Array Slot}, lv_has ls 8 [(0, .ref mb), (1, .int x1), (2, .int x2), (3, .int x3), (4, .int x4), (5, .int x5)] → k6 x1 x2 x3 x4 x5 = some r → mWr p l e 2 46 s m args below meth c (some (.int r)) (F0 m 6 ls [])) (hl : lv_has ls 8 [(0, .ref mb), (1, .int x1), (2, .int x2), (3, .int x3), (4, .int x4), (5, .int x5), (6, .int x6), (7, .int x7)]) (h : f_stepped_21 k6 n x1 x2 x3 x4 x5 x6 x7 σ = some r) : mWr p l e 2 46 s m args below meth c (some (.int r)) (F0 m 21 ls []) := by
  have hx := X.1
  have hb := X.2.1
  have hown := X.2.2.2.1
  have hts := X.2.2.2.2.1
  induction n generalizing x1 x2 x3 x4 x5 x6 x7 ls with
  | zero => exact absurd (show none = some r from h) (by simp)
  | succ n ih =>
    have h : (if (σ.2 13) ≤ x7 then (f_stepped_78 k6 (x1) (x2) (x3) (x4) (x5) (x6) σ) else ((f_bit (x2) (x5)).bind (fun v1 => if v1 = (0:Int32) then (f_stepped_78 k6 (x1) (x2) (x3) (x4) (x5) (x6) σ) else ((f_bit (x1) (x7)).bind (fun v2 => if v2 = (0:Int32) then (f_stepped_68 k6 (fun z0 z1 z2 z3 z4 z5 z6 => f_stepped_21 k6 n z0 z1 z2 z3 z4 z5 z6 σ) (x1) (x2) (x3) (x4) (x5) (x7) (x6) σ) else ((f_related (x3) (x5) (x7) σ).bind (fun v3 => if v3 = (0:Int32) then (f_stepped_68 k6 (fun z0 z1 z2 z3 z4 z5 z6 => f_stepped_21 k6 n z0 z1 z2 z3 z4 z5 z6 σ) (x1) (x2) (x3) (x4) (x5) (x7) (x6) σ) else (f_stepped_69 k6 (fun z0 z1 z2 z3 z4 z5 z6 => f_stepped_21 k6 n z0 z1 z2 z3 z4 z5 z6 σ) (x1) (x2) (x3) (x4) (x5) (x7) (x6) ((1:Int32)) σ)))))))) = some r := h
    refine lv_iload hx hb dX12_stepped_21 (lv_at hl 7 rfl) ?_
    refine lv_aload_n hx hb dX12_stepped_23 rfl (lv_at hl 0 rfl) ?_
    refine mg_made X hP dX12_stepped_24 ?_
    refine lv_icmp_ge (tgt := 78) hx hb dX12_stepped_27 rfl (fun hc => ?_) (fun hc => ?_)
    · have h := ip hc h
      exact N_stepped_78 X hP hk6 (lv_sub hl [0, 1, 2, 3, 4, 5, 6] rfl) h
    · have h := ine hc h
      refine lv_aload_n hx hb dX12_stepped_30 rfl (lv_at hl 0 rfl) ?_
      refine lv_iload_n hx hb dX12_stepped_31 rfl (lv_at hl 2 rfl) ?_
      refine lv_iload hx hb dX12_stepped_32 (lv_at hl 5 rfl) ?_
      obtain ⟨v1, hv1, h⟩ := ob h
      refine cl_bit X hP hv1 ⟨Nat.le_of_ble_eq_true rfl, Nat.le_of_ble_eq_true rfl⟩ hl.1 (Nat.le_of_ble_eq_true rfl) dX12_stepped_34 ?_
      refine lv_if_eq (tgt := 78) hx hb dX12_stepped_37 rfl (fun hc => ?_) (fun hc => ?_)
      · have h := ip hc h
        exact N_stepped_78 X hP hk6 (lv_sub hl [0, 1, 2, 3, 4, 5, 6] rfl) h
      · have h := ine hc h
        refine lv_iload hx hb dX12_stepped_40 (lv_at hl 6 rfl) ?_
        refine lv_aload_n hx hb dX12_stepped_42 rfl (lv_at hl 0 rfl) ?_
        refine lv_iload_n hx hb dX12_stepped_43 rfl (lv_at hl 1 rfl) ?_
        refine lv_iload hx hb dX12_stepped_44 (lv_at hl 7 rfl) ?_
        obtain ⟨v2, hv2, h⟩ := ob h
        refine cl_bit X hP hv2 ⟨Nat.le_of_ble_eq_true rfl, Nat.le_of_ble_eq_true rfl⟩ hl.1 (Nat.le_of_ble_eq_true rfl) dX12_stepped_46 ?_
        refine lv_if_eq (tgt := 68) hx hb dX12_stepped_49 rfl (fun hc => ?_) (fun hc => ?_)
        · have h := ip hc h
          exact N_stepped_68 X hP hk6 ih (lv_sub hl [0, 1, 2, 3, 4, 5, 7] rfl) h
        · have h := ine hc h
          refine lv_aload_n hx hb dX12_stepped_52 rfl (lv_at hl 0 rfl) ?_
          refine lv_iload_n hx hb dX12_stepped_53 rfl (lv_at hl 3 rfl) ?_
          refine lv_iload hx hb dX12_stepped_54 (lv_at hl 5 rfl) ?_
          refine lv_iload hx hb dX12_stepped_56 (lv_at hl 7 rfl) ?_
          obtain ⟨v3, hv3, h⟩ := ob h
          refine cl_related X hP hv3 ⟨Nat.le_of_ble_eq_true rfl, Nat.le_of_ble_eq_true rfl⟩ hl.1 (Nat.le_of_ble_eq_true rfl) dX12_stepped_58 ?_
          refine lv_if_eq (tgt := 68) hx hb dX12_stepped_61 rfl (fun hc => ?_) (fun hc => ?_)
          · have h := ip hc h
            exact N_stepped_68 X hP hk6 ih (lv_sub hl [0, 1, 2, 3, 4, 5, 7] rfl) h
          · have h := ine hc h
            refine lv_iconst (v := (1:Int32)) hx hb dX12_stepped_64 (by decide) ?_
            refine lv_goto (tgt := 69) hx hb dX12_stepped_65 rfl ?_
            exact N_stepped_69 X hP hk6 ih (lv_sub hl [0, 1, 2, 3, 4, 5, 7] rfl) h
set_option maxRecDepth 20000 in
set_option maxHeartbeats 4000000 in
theorem N_stepped_6 {p : Program} {l : Launch} {e : Env} {s : State} {m : MethodId} {args : Array Value} {below : List Frame} {meth : Method} {c : Code} {D : mD} {mb : Nat}  {n : Nat} {x1 : Int32} {x2 : Int32} {x3 : Int32} {x4 : Int32} {x5 : Int32} {σ : mS} {ls : Array Slot} {r : Int32} (X : mX p s m args meth c cX12_stepped 8 (some .int) D) (hP : mP D mb σ s.heap)  (hl : lv_has ls 8 [(0, .ref mb), (1, .int x1), (2, .int x2), (3, .int x3), (4, .int x4), (5, .int x5)]) (h : f_stepped_6  n x1 x2 x3 x4 x5 σ = some r) : mWr p l e 2 46 s m args below meth c (some (.int r)) (F0 m 6 ls []) := by
  have hx := X.1
  have hb := X.2.1
  have hown := X.2.2.2.1
  have hts := X.2.2.2.2.1
  induction n generalizing x1 x2 x3 x4 x5 ls with
  | zero => exact absurd (show none = some r from h) (by simp)
  | succ n ih =>
    have h : (if (σ.2 13) ≤ x5 then (some x4) else (f_stepped_21 (fun z0 z1 z2 z3 z4 => f_stepped_6 n z0 z1 z2 z3 z4 σ) 4000 (x1) (x2) (x3) (x4) (x5) ((0:Int32)) ((0:Int32)) σ)) = some r := h
    refine lv_iload hx hb dX12_stepped_6 (lv_at hl 5 rfl) ?_
    refine lv_aload_n hx hb dX12_stepped_8 rfl (lv_at hl 0 rfl) ?_
    refine mg_made X hP dX12_stepped_9 ?_
    refine lv_icmp_ge (tgt := 102) hx hb dX12_stepped_12 rfl (fun hc => ?_) (fun hc => ?_)
    · have h := ip hc h
      refine lv_iload hx hb dX12_stepped_102 (lv_at hl 4 rfl) ?_
      obtain rfl := sj h
      exact m_ri X dX12_stepped_104
    · have h := ine hc h
      refine lv_iconst (v := (0:Int32)) hx hb dX12_stepped_15 (by decide) ?_
      refine lv_istore hx hb dX12_stepped_16 hl (Nat.le_of_ble_eq_true rfl) rfl (fun ls (hl : lv_has ls 8 [(6, .int (0:Int32)), (0, .ref mb), (1, .int x1), (2, .int x2), (3, .int x3), (4, .int x4), (5, .int x5)]) => ?_)
      refine lv_iconst (v := (0:Int32)) hx hb dX12_stepped_18 (by decide) ?_
      refine lv_istore hx hb dX12_stepped_19 hl (Nat.le_of_ble_eq_true rfl) rfl (fun ls (hl : lv_has ls 8 [(7, .int (0:Int32)), (6, .int (0:Int32)), (0, .ref mb), (1, .int x1), (2, .int x2), (3, .int x3), (4, .int x4), (5, .int x5)]) => ?_)
      exact N_stepped_21 X hP ih (lv_sub hl [2, 3, 4, 5, 6, 7, 1, 0] rfl) h
set_option maxRecDepth 20000 in
set_option maxHeartbeats 4000000 in
theorem K_stepped (l : Launch) (D : mD) (mb : Nat) (σ : mS) (x1 : Int32) (x2 : Int32) (x3 : Int32) {r : Int32} (h : f_stepped x1 x2 x3 σ = some r) : Met l yX12_stepped (Cond.code yX12_stepped cX12_stepped 8 (some .int) :: BG) (rM 2 46) (mPc D mb σ [.int x1, .int x2, .int x3]) (mQr (some (.int r))) 0 0 (fun _ => False) := by
  refine Met.ofW (cc := cX12_stepped) (maxL := 8) (ret := (some .int)) (by decide) rfl ?_
  intro p e s m args below meth c s₁ B hml hv
  obtain ⟨rfl, hP, hK⟩ := hv
  have X := mX_of B hml rfl hK
  have hx := X.1
  have hb := X.2.1
  have hown := X.2.2.2.1
  have hts := X.2.2.2.2.1
  have hl := lv_entry (.ref mb :: [.int x1, .int x2, .int x3]) (n := 8) (Nat.le_of_ble_eq_true rfl)
  rw [lg_entry_eq]
  generalize (lg_sl (.ref mb :: [.int x1, .int x2, .int x3]) ++ List.replicate (8 - (lg_sl (.ref mb :: [.int x1, .int x2, .int x3])).length) Slot.unset).toArray = ls at hl ⊢
  have hl : lv_has ls 8 [(0, .ref mb), (1, .int x1), (2, .int x2), (3, .int x3)] := hl
  show mWr p l e 2 46 s m (Value.ref mb :: [.int x1, .int x2, .int x3]).toArray below meth c (some (.int r)) (F0 m 0 ls [])
  have h : (f_stepped_6 4000 (x1) (x2) (x3) ((0:Int32)) ((0:Int32)) σ) = some r := h
  refine lv_iconst (v := (0:Int32)) hx hb dX12_stepped_0 (by decide) ?_
  refine lv_istore hx hb dX12_stepped_1 hl (Nat.le_of_ble_eq_true rfl) rfl (fun ls (hl : lv_has ls 8 [(4, .int (0:Int32)), (0, .ref mb), (1, .int x1), (2, .int x2), (3, .int x3)]) => ?_)
  refine lv_iconst (v := (0:Int32)) hx hb dX12_stepped_3 (by decide) ?_
  refine lv_istore hx hb dX12_stepped_4 hl (Nat.le_of_ble_eq_true rfl) rfl (fun ls (hl : lv_has ls 8 [(5, .int (0:Int32)), (4, .int (0:Int32)), (0, .ref mb), (1, .int x1), (2, .int x2), (3, .int x3)]) => ?_)
  exact N_stepped_6 X hP (lv_sub hl [2, 3, 4, 5, 1, 0] rfl) h
theorem cl_stepped {p : Program} {l : Launch} {e : Env} {s : State} {m : MethodId} {args : Array Value} {below : List Frame} {meth : Method} {c : Code} {D : mD} {mb : Nat} {H : Heap} {locs : List Loc} {Q : State → Prop} {cc : ByteArray} {pc fR lR nL : Nat} {ls : Array Slot} {rest : List Value} {ret : Option FieldType} {σ : mS} (X : mX p s m args meth c cc nL ret D) (hP : mP D mb σ H) {x1 : Int32} {x2 : Int32} {x3 : Int32} {r : Int32} (h : f_stepped x1 x2 x3 σ = some r) (hr : 2 + 1 ≤ fR ∧ 8 + (8 + 11) + 46 ≤ lR) (hl : ls.size = nL) (hW : (rest.map fun v => v.category).sum ≤ 8) (hdg : decode cc pc = .ok (.invokevirtual 309, 3)) (kk : W p l e (rM fR lR) s m args below meth c H locs 0 0 Q (F0 m (pc + 3) ls (.int r :: rest))) : W p l e (rM fR lR) s m args below meth c H locs 0 0 Q (F0 m pc ls (.int x3 :: .int x2 :: .int x1 :: .ref mb :: rest)) := m_cr (m_run (n := 3) X (K_stepped l D mb σ x1 x2 x3 h) ⟨w_2063, w_2065, w_96, w_2066⟩ (hyX rfl (by decide +kernel)) rfl hr hP hl hW hdg rfl) kk
-- solve(I)I
def f_solve_120 (k63 : Int32 → Int32 → Int32 → Int32 → Option (Int32)) (x1 : Int32) (x2 : Int32) (x4 : Int32) (y0 : Int32) (y1 : Int32) (σ : mS) : Option (Int32) := k63 (x1) (x2) ((y0 ||| y1)) ((x4 + (1:Int32)))
def f_solve_119 (k63 : Int32 → Int32 → Int32 → Int32 → Option (Int32)) (x1 : Int32) (x2 : Int32) (x4 : Int32) (y0 : Int32) (σ : mS) : Option (Int32) := f_solve_120 k63 (x1) (x2) (x4) (y0) ((0:Int32)) σ
def f_solve_63  : Nat → Int32 → Int32 → Int32 → Int32 → mS → Option (Int32)
  | 0, _, _, _, _, _ => none
  | n + 1, x1, x2, x3, x4, σ => if (σ.2 13) ≤ x4 then (some x3) else ((f_treeOf (x4) σ).bind (fun v1 => (rd σ 5 x4).bind (fun v2 => (rd σ 21 x1).bind (fun v3 => if v2 = v3 then (if v1 < (0:Int32) then (f_solve_119 (fun z0 z1 z2 z3 => f_solve_63 n z0 z1 z2 z3 σ) (x1) (x2) (x4) (x3) σ) else ((f_bit (x2) (v1)).bind (fun v4 => if v4 = (0:Int32) then (f_solve_119 (fun z0 z1 z2 z3 => f_solve_63 n z0 z1 z2 z3 σ) (x1) (x2) (x4) (x3) σ) else (f_solve_120 (fun z0 z1 z2 z3 => f_solve_63 n z0 z1 z2 z3 σ) (x1) (x2) (x4) (x3) (((1:Int32) <<< (x4 &&& 31))) σ)))) else (f_solve_119 (fun z0 z1 z2 z3 => f_solve_63 n z0 z1 z2 z3 σ) (x1) (x2) (x4) (x3) σ)))))
def f_solve_9  : Nat → Int32 → Int32 → Int32 → mS → Option (Int32)
  | 0, _, _, _, _ => none
  | n + 1, x1, x2, x3, σ => (rd σ 14 x1).bind (fun v1 => if v1 ≤ x3 then ((rd σ 21 x1).bind (fun v2 => if (0:Int32) ≤ v2 then (f_solve_63 4000 (x1) (x2) ((0:Int32)) ((0:Int32)) σ) else (some x2))) else ((f_compound (x1) (x3) σ).bind (fun v3 => (rd σ 15 (((4:Int32) * x1) + x3)).bind (fun v4 => (f_stepped (x2) (v3) (v4) σ).bind (fun v5 => f_solve_9 n (x1) (v5) ((x3 + (1:Int32))) σ)))))
def f_solve (x1 : Int32) (σ : mS) : Option (Int32) := (f_compound (x1) ((0:Int32)) σ).bind (fun v1 => f_solve_9 4000 (x1) (v1) ((1:Int32)) σ)
set_option maxRecDepth 20000 in
set_option maxHeartbeats 4000000 in
theorem N_solve_120 {p : Program} {l : Launch} {e : Env} {s : State} {m : MethodId} {args : Array Value} {below : List Frame} {meth : Method} {c : Code} {D : mD} {mb : Nat} {k63 : Int32 → Int32 → Int32 → Int32 → Option (Int32)}  {x1 : Int32} {x2 : Int32} {x4 : Int32} {y0 : Int32} {y1 : Int32} {σ : mS} {ls : Array Slot} {r : Int32} (X : mX p s m args meth c cX12_solve 6 (some .int) D) (hP : mP D mb σ s.heap) (hk63 : ∀ {x1 : Int32} {x2 : Int32} {x3 : Int32} {x4 : Int32} {ls : Array Slot}, lv_has ls 6 [(0, .ref mb), (1, .int x1), (2, .int x2), (3, .int x3), (4, .int x4)] → k63 x1 x2 x3 x4 = some r → mWr p l e 5 122 s m args below meth c (some (.int r)) (F0 m 63 ls [])) (hl : lv_has ls 6 [(0, .ref mb), (1, .int x1), (2, .int x2), (4, .int x4)]) (h : f_solve_120 k63 x1 x2 x4 y0 y1 σ = some r) : mWr p l e 5 122 s m args below meth c (some (.int r)) (F0 m 120 ls [.int y1, .int y0]) := by
  have hx := X.1
  have hb := X.2.1
  have hown := X.2.2.2.1
  have hts := X.2.2.2.2.1
  have h : (k63 (x1) (x2) ((y0 ||| y1)) ((x4 + (1:Int32)))) = some r := h
  refine lv_ior hx hb dX12_solve_120 ?_
  refine lv_istore_n hx hb dX12_solve_121 rfl hl (Nat.le_of_ble_eq_true rfl) rfl (fun ls (hl : lv_has ls 6 [(3, .int (y0 ||| y1)), (0, .ref mb), (1, .int x1), (2, .int x2), (4, .int x4)]) => ?_)
  refine lv_iinc (v := (x4 + (1:Int32))) hx hb dX12_solve_122 hl (k := 4) rfl rfl (Nat.le_of_ble_eq_true rfl) rfl (fun ls (hl : lv_has ls 6 [(4, .int (x4 + (1:Int32))), (3, .int (y0 ||| y1)), (0, .ref mb), (1, .int x1), (2, .int x2)]) => ?_)
  refine lv_goto (tgt := 63) hx hb dX12_solve_125 rfl ?_
  exact hk63 (lv_sub hl [2, 3, 4, 1, 0] rfl) h
set_option maxRecDepth 20000 in
set_option maxHeartbeats 4000000 in
theorem N_solve_119 {p : Program} {l : Launch} {e : Env} {s : State} {m : MethodId} {args : Array Value} {below : List Frame} {meth : Method} {c : Code} {D : mD} {mb : Nat} {k63 : Int32 → Int32 → Int32 → Int32 → Option (Int32)}  {x1 : Int32} {x2 : Int32} {x4 : Int32} {y0 : Int32} {σ : mS} {ls : Array Slot} {r : Int32} (X : mX p s m args meth c cX12_solve 6 (some .int) D) (hP : mP D mb σ s.heap) (hk63 : ∀ {x1 : Int32} {x2 : Int32} {x3 : Int32} {x4 : Int32} {ls : Array Slot}, lv_has ls 6 [(0, .ref mb), (1, .int x1), (2, .int x2), (3, .int x3), (4, .int x4)] → k63 x1 x2 x3 x4 = some r → mWr p l e 5 122 s m args below meth c (some (.int r)) (F0 m 63 ls [])) (hl : lv_has ls 6 [(0, .ref mb), (1, .int x1), (2, .int x2), (4, .int x4)]) (h : f_solve_119 k63 x1 x2 x4 y0 σ = some r) : mWr p l e 5 122 s m args below meth c (some (.int r)) (F0 m 119 ls [.int y0]) := by
  have hx := X.1
  have hb := X.2.1
  have hown := X.2.2.2.1
  have hts := X.2.2.2.2.1
  have h : (f_solve_120 k63 (x1) (x2) (x4) (y0) ((0:Int32)) σ) = some r := h
  refine lv_iconst (v := (0:Int32)) hx hb dX12_solve_119 (by decide) ?_
  exact N_solve_120 X hP hk63 (lv_sub hl [0, 1, 2, 3] rfl) h
set_option maxRecDepth 20000 in
set_option maxHeartbeats 4000000 in
theorem N_solve_63 {p : Program} {l : Launch} {e : Env} {s : State} {m : MethodId} {args : Array Value} {below : List Frame} {meth : Method} {c : Code} {D : mD} {mb : Nat}  {n : Nat} {x1 : Int32} {x2 : Int32} {x3 : Int32} {x4 : Int32} {σ : mS} {ls : Array Slot} {r : Int32} (X : mX p s m args meth c cX12_solve 6 (some .int) D) (hP : mP D mb σ s.heap)  (hl : lv_has ls 6 [(0, .ref mb), (1, .int x1), (2, .int x2), (3, .int x3), (4, .int x4)]) (h : f_solve_63  n x1 x2 x3 x4 σ = some r) : mWr p l e 5 122 s m args below meth c (some (.int r)) (F0 m 63 ls []) := by
  have hx := X.1
  have hb := X.2.1
  have hown := X.2.2.2.1
  have hts := X.2.2.2.2.1
  induction n generalizing x1 x2 x3 x4 ls with
  | zero => exact absurd (show none = some r from h) (by simp)
  | succ n ih =>
    have h : (if (σ.2 13) ≤ x4 then (some x3) else ((f_treeOf (x4) σ).bind (fun v1 => (rd σ 5 x4).bind (fun v2 => (rd σ 21 x1).bind (fun v3 => if v2 = v3 then (if v1 < (0:Int32) then (f_solve_119 (fun z0 z1 z2 z3 => f_solve_63 n z0 z1 z2 z3 σ) (x1) (x2) (x4) (x3) σ) else ((f_bit (x2) (v1)).bind (fun v4 => if v4 = (0:Int32) then (f_solve_119 (fun z0 z1 z2 z3 => f_solve_63 n z0 z1 z2 z3 σ) (x1) (x2) (x4) (x3) σ) else (f_solve_120 (fun z0 z1 z2 z3 => f_solve_63 n z0 z1 z2 z3 σ) (x1) (x2) (x4) (x3) (((1:Int32) <<< (x4 &&& 31))) σ)))) else (f_solve_119 (fun z0 z1 z2 z3 => f_solve_63 n z0 z1 z2 z3 σ) (x1) (x2) (x4) (x3) σ)))))) = some r := h
    refine lv_iload hx hb dX12_solve_63 (lv_at hl 4 rfl) ?_
    refine lv_aload_n hx hb dX12_solve_65 rfl (lv_at hl 0 rfl) ?_
    refine mg_made X hP dX12_solve_66 ?_
    refine lv_icmp_ge (tgt := 128) hx hb dX12_solve_69 rfl (fun hc => ?_) (fun hc => ?_)
    · have h := ip hc h
      refine lv_iload_n hx hb dX12_solve_128 rfl (lv_at hl 3 rfl) ?_
      obtain rfl := sj h
      exact m_ri X dX12_solve_129
    · have h := ine hc h
      refine lv_aload_n hx hb dX12_solve_72 rfl (lv_at hl 0 rfl) ?_
      refine lv_iload hx hb dX12_solve_73 (lv_at hl 4 rfl) ?_
      obtain ⟨v1, hv1, h⟩ := ob h
      refine cl_treeOf X hP hv1 ⟨Nat.le_of_ble_eq_true rfl, Nat.le_of_ble_eq_true rfl⟩ hl.1 (Nat.le_of_ble_eq_true rfl) dX12_solve_75 ?_
      refine lv_istore hx hb dX12_solve_78 hl (Nat.le_of_ble_eq_true rfl) rfl (fun ls (hl : lv_has ls 6 [(5, .int v1), (0, .ref mb), (1, .int x1), (2, .int x2), (3, .int x3), (4, .int x4)]) => ?_)
      refine lv_iload_n hx hb dX12_solve_80 rfl (lv_at hl 4 rfl) ?_
      refine lv_aload_n hx hb dX12_solve_81 rfl (lv_at hl 1 rfl) ?_
      refine mg_part X hP dX12_solve_82 ?_
      refine lv_iload hx hb dX12_solve_85 (lv_at hl 5 rfl) ?_
      obtain ⟨v2, hv2, h⟩ := ob h
      refine m_ald X hP hv2 dX12_solve_87 ?_
      refine lv_aload_n hx hb dX12_solve_88 rfl (lv_at hl 1 rfl) ?_
      refine mg_hp X hP dX12_solve_89 ?_
      refine lv_iload_n hx hb dX12_solve_92 rfl (lv_at hl 2 rfl) ?_
      obtain ⟨v3, hv3, h⟩ := ob h
      refine m_ald X hP hv3 dX12_solve_93 ?_
      refine lv_icmp_ne (tgt := 119) hx hb dX12_solve_94 rfl (fun hc => ?_) (fun hc => ?_)
      · have h := ine hc h
        exact N_solve_119 X hP ih (lv_sub hl [1, 2, 3, 5] rfl) h
      · have h := ip hc h
        refine lv_iload hx hb dX12_solve_97 (lv_at hl 0 rfl) ?_
        refine lv_if_lt (tgt := 119) hx hb dX12_solve_99 rfl (fun hc => ?_) (fun hc => ?_)
        · have h := ip hc h
          exact N_solve_119 X hP ih (lv_sub hl [1, 2, 3, 5] rfl) h
        · have h := ine hc h
          refine lv_aload_n hx hb dX12_solve_102 rfl (lv_at hl 1 rfl) ?_
          refine lv_iload_n hx hb dX12_solve_103 rfl (lv_at hl 3 rfl) ?_
          refine lv_iload hx hb dX12_solve_104 (lv_at hl 0 rfl) ?_
          obtain ⟨v4, hv4, h⟩ := ob h
          refine cl_bit X hP hv4 ⟨Nat.le_of_ble_eq_true rfl, Nat.le_of_ble_eq_true rfl⟩ hl.1 (Nat.le_of_ble_eq_true rfl) dX12_solve_106 ?_
          refine lv_if_eq (tgt := 119) hx hb dX12_solve_109 rfl (fun hc => ?_) (fun hc => ?_)
          · have h := ip hc h
            exact N_solve_119 X hP ih (lv_sub hl [1, 2, 3, 5] rfl) h
          · have h := ine hc h
            refine lv_iconst (v := (1:Int32)) hx hb dX12_solve_112 (by decide) ?_
            refine lv_iload hx hb dX12_solve_113 (lv_at hl 5 rfl) ?_
            refine lv_ishl hx hb dX12_solve_115 ?_
            refine lv_goto (tgt := 120) hx hb dX12_solve_116 rfl ?_
            exact N_solve_120 X hP ih (lv_sub hl [1, 2, 3, 5] rfl) h
set_option maxRecDepth 20000 in
set_option maxHeartbeats 4000000 in
theorem N_solve_9 {p : Program} {l : Launch} {e : Env} {s : State} {m : MethodId} {args : Array Value} {below : List Frame} {meth : Method} {c : Code} {D : mD} {mb : Nat}  {n : Nat} {x1 : Int32} {x2 : Int32} {x3 : Int32} {σ : mS} {ls : Array Slot} {r : Int32} (X : mX p s m args meth c cX12_solve 6 (some .int) D) (hP : mP D mb σ s.heap)  (hl : lv_has ls 6 [(0, .ref mb), (1, .int x1), (2, .int x2), (3, .int x3)]) (h : f_solve_9  n x1 x2 x3 σ = some r) : mWr p l e 5 122 s m args below meth c (some (.int r)) (F0 m 9 ls []) := by
  have hx := X.1
  have hb := X.2.1
  have hown := X.2.2.2.1
  have hts := X.2.2.2.2.1
  induction n generalizing x1 x2 x3 ls with
  | zero => exact absurd (show none = some r from h) (by simp)
  | succ n ih =>
    have h : ((rd σ 14 x1).bind (fun v1 => if v1 ≤ x3 then ((rd σ 21 x1).bind (fun v2 => if (0:Int32) ≤ v2 then (f_solve_63 4000 (x1) (x2) ((0:Int32)) ((0:Int32)) σ) else (some x2))) else ((f_compound (x1) (x3) σ).bind (fun v3 => (rd σ 15 (((4:Int32) * x1) + x3)).bind (fun v4 => (f_stepped (x2) (v3) (v4) σ).bind (fun v5 => f_solve_9 n (x1) (v5) ((x3 + (1:Int32))) σ)))))) = some r := h
    refine lv_iload_n hx hb dX12_solve_9 rfl (lv_at hl 3 rfl) ?_
    refine lv_aload_n hx hb dX12_solve_10 rfl (lv_at hl 0 rfl) ?_
    refine mg_nc X hP dX12_solve_11 ?_
    refine lv_iload_n hx hb dX12_solve_14 rfl (lv_at hl 1 rfl) ?_
    obtain ⟨v1, hv1, h⟩ := ob h
    refine m_ald X hP hv1 dX12_solve_15 ?_
    refine lv_icmp_ge (tgt := 47) hx hb dX12_solve_16 rfl (fun hc => ?_) (fun hc => ?_)
    · have h := ip hc h
      refine lv_aload_n hx hb dX12_solve_47 rfl (lv_at hl 0 rfl) ?_
      refine mg_hp X hP dX12_solve_48 ?_
      refine lv_iload_n hx hb dX12_solve_51 rfl (lv_at hl 1 rfl) ?_
      obtain ⟨v2, hv2, h⟩ := ob h
      refine m_ald X hP hv2 dX12_solve_52 ?_
      refine lv_if_ge (tgt := 58) hx hb dX12_solve_53 rfl (fun hc => ?_) (fun hc => ?_)
      · have h := ip hc h
        refine lv_iconst (v := (0:Int32)) hx hb dX12_solve_58 (by decide) ?_
        refine lv_istore_n hx hb dX12_solve_59 rfl hl (Nat.le_of_ble_eq_true rfl) rfl (fun ls (hl : lv_has ls 6 [(3, .int (0:Int32)), (0, .ref mb), (1, .int x1), (2, .int x2)]) => ?_)
        refine lv_iconst (v := (0:Int32)) hx hb dX12_solve_60 (by decide) ?_
        refine lv_istore hx hb dX12_solve_61 hl (Nat.le_of_ble_eq_true rfl) rfl (fun ls (hl : lv_has ls 6 [(4, .int (0:Int32)), (3, .int (0:Int32)), (0, .ref mb), (1, .int x1), (2, .int x2)]) => ?_)
        exact N_solve_63 X hP (lv_sub hl [2, 3, 4, 1, 0] rfl) h
      · have h := ine hc h
        refine lv_iload_n hx hb dX12_solve_56 rfl (lv_at hl 2 rfl) ?_
        obtain rfl := sj h
        exact m_ri X dX12_solve_57
    · have h := ine hc h
      refine lv_aload_n hx hb dX12_solve_19 rfl (lv_at hl 0 rfl) ?_
      refine lv_iload_n hx hb dX12_solve_20 rfl (lv_at hl 2 rfl) ?_
      refine lv_aload_n hx hb dX12_solve_21 rfl (lv_at hl 0 rfl) ?_
      refine lv_iload_n hx hb dX12_solve_22 rfl (lv_at hl 1 rfl) ?_
      refine lv_iload_n hx hb dX12_solve_23 rfl (lv_at hl 3 rfl) ?_
      obtain ⟨v3, hv3, h⟩ := ob h
      refine cl_compound X hP hv3 ⟨Nat.le_of_ble_eq_true rfl, Nat.le_of_ble_eq_true rfl⟩ hl.1 (Nat.le_of_ble_eq_true rfl) dX12_solve_24 ?_
      refine lv_aload_n hx hb dX12_solve_27 rfl (lv_at hl 0 rfl) ?_
      refine mg_cb X hP dX12_solve_28 ?_
      refine lv_iconst (v := (4:Int32)) hx hb dX12_solve_31 (by decide) ?_
      refine lv_iload_n hx hb dX12_solve_32 rfl (lv_at hl 1 rfl) ?_
      refine lv_imul hx hb dX12_solve_33 ?_
      refine lv_iload_n hx hb dX12_solve_34 rfl (lv_at hl 3 rfl) ?_
      refine lv_iadd hx hb dX12_solve_35 ?_
      obtain ⟨v4, hv4, h⟩ := ob h
      refine m_ald X hP hv4 dX12_solve_36 ?_
      obtain ⟨v5, hv5, h⟩ := ob h
      refine cl_stepped X hP hv5 ⟨Nat.le_of_ble_eq_true rfl, Nat.le_of_ble_eq_true rfl⟩ hl.1 (Nat.le_of_ble_eq_true rfl) dX12_solve_37 ?_
      refine lv_istore_n hx hb dX12_solve_40 rfl hl (Nat.le_of_ble_eq_true rfl) rfl (fun ls (hl : lv_has ls 6 [(2, .int v5), (0, .ref mb), (1, .int x1), (3, .int x3)]) => ?_)
      refine lv_iinc (v := (x3 + (1:Int32))) hx hb dX12_solve_41 hl (k := 3) rfl rfl (Nat.le_of_ble_eq_true rfl) rfl (fun ls (hl : lv_has ls 6 [(3, .int (x3 + (1:Int32))), (2, .int v5), (0, .ref mb), (1, .int x1)]) => ?_)
      refine lv_goto (tgt := 9) hx hb dX12_solve_44 rfl ?_
      exact ih (lv_sub hl [2, 3, 1, 0] rfl) h
set_option maxRecDepth 20000 in
set_option maxHeartbeats 4000000 in
theorem K_solve (l : Launch) (D : mD) (mb : Nat) (σ : mS) (x1 : Int32) {r : Int32} (h : f_solve x1 σ = some r) : Met l yX12_solve (Cond.code yX12_solve cX12_solve 6 (some .int) :: BG) (rM 5 122) (mPc D mb σ [.int x1]) (mQr (some (.int r))) 0 0 (fun _ => False) := by
  refine Met.ofW (cc := cX12_solve) (maxL := 6) (ret := (some .int)) (by decide) rfl ?_
  intro p e s m args below meth c s₁ B hml hv
  obtain ⟨rfl, hP, hK⟩ := hv
  have X := mX_of B hml rfl hK
  have hx := X.1
  have hb := X.2.1
  have hown := X.2.2.2.1
  have hts := X.2.2.2.2.1
  have hl := lv_entry (.ref mb :: [.int x1]) (n := 6) (Nat.le_of_ble_eq_true rfl)
  rw [lg_entry_eq]
  generalize (lg_sl (.ref mb :: [.int x1]) ++ List.replicate (6 - (lg_sl (.ref mb :: [.int x1])).length) Slot.unset).toArray = ls at hl ⊢
  have hl : lv_has ls 6 [(0, .ref mb), (1, .int x1)] := hl
  show mWr p l e 5 122 s m (Value.ref mb :: [.int x1]).toArray below meth c (some (.int r)) (F0 m 0 ls [])
  have h : ((f_compound (x1) ((0:Int32)) σ).bind (fun v1 => f_solve_9 4000 (x1) (v1) ((1:Int32)) σ)) = some r := h
  refine lv_aload_n hx hb dX12_solve_0 rfl (lv_at hl 0 rfl) ?_
  refine lv_iload_n hx hb dX12_solve_1 rfl (lv_at hl 1 rfl) ?_
  refine lv_iconst (v := (0:Int32)) hx hb dX12_solve_2 (by decide) ?_
  obtain ⟨v1, hv1, h⟩ := ob h
  refine cl_compound X hP hv1 ⟨Nat.le_of_ble_eq_true rfl, Nat.le_of_ble_eq_true rfl⟩ hl.1 (Nat.le_of_ble_eq_true rfl) dX12_solve_3 ?_
  refine lv_istore_n hx hb dX12_solve_6 rfl hl (Nat.le_of_ble_eq_true rfl) rfl (fun ls (hl : lv_has ls 6 [(2, .int v1), (0, .ref mb), (1, .int x1)]) => ?_)
  refine lv_iconst (v := (1:Int32)) hx hb dX12_solve_7 (by decide) ?_
  refine lv_istore_n hx hb dX12_solve_8 rfl hl (Nat.le_of_ble_eq_true rfl) rfl (fun ls (hl : lv_has ls 6 [(3, .int (1:Int32)), (2, .int v1), (0, .ref mb), (1, .int x1)]) => ?_)
  exact N_solve_9 X hP (lv_sub hl [2, 3, 1, 0] rfl) h
theorem cl_solve {p : Program} {l : Launch} {e : Env} {s : State} {m : MethodId} {args : Array Value} {below : List Frame} {meth : Method} {c : Code} {D : mD} {mb : Nat} {H : Heap} {locs : List Loc} {Q : State → Prop} {cc : ByteArray} {pc fR lR nL : Nat} {ls : Array Slot} {rest : List Value} {ret : Option FieldType} {σ : mS} (X : mX p s m args meth c cc nL ret D) (hP : mP D mb σ H) {x1 : Int32} {r : Int32} (h : f_solve x1 σ = some r) (hr : 5 + 1 ≤ fR ∧ 8 + (6 + 11) + 122 ≤ lR) (hl : ls.size = nL) (hW : (rest.map fun v => v.category).sum ≤ 8) (hdg : decode cc pc = .ok (.invokevirtual 316, 3)) (kk : W p l e (rM fR lR) s m args below meth c H locs 0 0 Q (F0 m (pc + 3) ls (.int r :: rest))) : W p l e (rM fR lR) s m args below meth c H locs 0 0 Q (F0 m pc ls (.int x1 :: .ref mb :: rest)) := m_cr (m_run (n := 1) X (K_solve l D mb σ x1 h) ⟨w_2031, w_2033, w_88, w_2034⟩ (hyX rfl (by decide +kernel)) rfl hr hP hl hW hdg rfl) kk
-- look(I)V
def f_look_53  : Nat → Int32 → mS → Option (mS)
  | 0, _, _ => none
  | n + 1, x2, σ => if (σ.2 26) ≤ x2 then (some σ) else ((f_solve (x2) σ).bind (fun v1 => (wr σ 73 x2 v1).bind (fun s2 => f_look_53 n ((x2 + (1:Int32))) s2)))
def f_look_41 (k12 : Int32 → Int32 → mS → Option (mS)) (x1 : Int32) (x2 : Int32) (y1 : Int32) (y2 : Int32) (σ : mS) : Option (mS) := k12 (x1) ((x2 + (1:Int32))) (sf σ 72 (y1 ||| y2))
def f_look_12  : Nat → Int32 → Int32 → mS → Option (mS)
  | 0, _, _, _ => none
  | n + 1, x1, x2, σ => if (σ.2 13) ≤ x2 then (f_look_53 4000 ((0:Int32)) σ) else ((f_treeOf (x2) σ).bind (fun v1 => if v1 = x1 then (f_look_41 (f_look_12 n) (x1) (x2) ((σ.2 72)) (((1:Int32) <<< (x2 &&& 31))) σ) else (f_look_41 (f_look_12 n) (x1) (x2) ((σ.2 72)) ((0:Int32)) σ)))
def f_look (x1 : Int32) (σ : mS) : Option (mS) := f_look_12 4000 (x1) ((0:Int32)) (sf (sf σ 71 x1) 72 (0:Int32))
set_option maxRecDepth 20000 in
set_option maxHeartbeats 4000000 in
theorem N_look_53 {p : Program} {l : Launch} {e : Env} {s : State} {m : MethodId} {args : Array Value} {below : List Frame} {meth : Method} {c : Code} {D : mD} {mb : Nat}  {n : Nat} {x2 : Int32} {σ : mS} {H : Heap} {locs : List Loc} {ls : Array Slot} {q : mS} (X : mX p s m args meth c cX12_look 3 none D) (hP : mP D mb σ H) (hF : mF mb s.heap H locs)  (hl : lv_has ls 3 [(0, .ref mb), (2, .int x2)]) (h : f_look_53  n x2 σ = some q) : mWw p l e 6 147 s m args below meth c D mb q none H locs (F0 m 53 ls []) := by
  have hx := X.1
  have hb := X.2.1
  have hown := X.2.2.2.1
  have hts := X.2.2.2.2.1
  induction n generalizing x2 σ H locs ls with
  | zero => exact absurd (show none = some q from h) (by simp)
  | succ n ih =>
    have h : (if (σ.2 26) ≤ x2 then (some σ) else ((f_solve (x2) σ).bind (fun v1 => (wr σ 73 x2 v1).bind (fun s2 => f_look_53 n ((x2 + (1:Int32))) s2)))) = some q := h
    refine lv_iload_n hx hb dX12_look_53 rfl (lv_at hl 1 rfl) ?_
    refine lv_aload_n hx hb dX12_look_54 rfl (lv_at hl 0 rfl) ?_
    refine mg_sels X hP dX12_look_55 ?_
    refine lv_icmp_ge (tgt := 78) hx hb dX12_look_58 rfl (fun hc => ?_) (fun hc => ?_)
    · have h := ip hc h
      obtain rfl := sj h
      exact m_wv X hP hF dX12_look_78
    · have h := ine hc h
      refine lv_aload_n hx hb dX12_look_61 rfl (lv_at hl 0 rfl) ?_
      refine mg_set X hP dX12_look_62 ?_
      refine lv_iload_n hx hb dX12_look_65 rfl (lv_at hl 1 rfl) ?_
      refine lv_aload_n hx hb dX12_look_66 rfl (lv_at hl 0 rfl) ?_
      refine lv_iload_n hx hb dX12_look_67 rfl (lv_at hl 1 rfl) ?_
      obtain ⟨v1, hv1, h⟩ := ob h
      refine cl_solve X hP hv1 ⟨Nat.le_of_ble_eq_true rfl, Nat.le_of_ble_eq_true rfl⟩ hl.1 (Nat.le_of_ble_eq_true rfl) dX12_look_68 ?_
      obtain ⟨s2, hs2, h⟩ := ob h
      refine m_ast X hP hF hs2 dX12_look_71 (fun H locs hP hF => ?_)
      refine lv_iinc (v := (x2 + (1:Int32))) hx hb dX12_look_72 hl (k := 1) rfl rfl (Nat.le_of_ble_eq_true rfl) rfl (fun ls (hl : lv_has ls 3 [(2, .int (x2 + (1:Int32))), (0, .ref mb)]) => ?_)
      refine lv_goto (tgt := 53) hx hb dX12_look_75 rfl ?_
      exact ih hP hF (lv_sub hl [1, 0] rfl) h
set_option maxRecDepth 20000 in
set_option maxHeartbeats 4000000 in
theorem N_look_41 {p : Program} {l : Launch} {e : Env} {s : State} {m : MethodId} {args : Array Value} {below : List Frame} {meth : Method} {c : Code} {D : mD} {mb : Nat} {k12 : Int32 → Int32 → mS → Option (mS)}  {x1 : Int32} {x2 : Int32} {y1 : Int32} {y2 : Int32} {σ : mS} {H : Heap} {locs : List Loc} {ls : Array Slot} {q : mS} (X : mX p s m args meth c cX12_look 3 none D) (hP : mP D mb σ H) (hF : mF mb s.heap H locs) (hk12 : ∀ {x1 : Int32} {x2 : Int32} {σ : mS} {H : Heap} {locs : List Loc} {ls : Array Slot}, mP D mb σ H → mF mb s.heap H locs → lv_has ls 3 [(0, .ref mb), (1, .int x1), (2, .int x2)] → k12 x1 x2 σ = some q → mWw p l e 6 147 s m args below meth c D mb q none H locs (F0 m 12 ls [])) (hl : lv_has ls 3 [(0, .ref mb), (1, .int x1), (2, .int x2)]) (h : f_look_41 k12 x1 x2 y1 y2 σ = some q) : mWw p l e 6 147 s m args below meth c D mb q none H locs (F0 m 41 ls [.int y2, .int y1, .ref mb]) := by
  have hx := X.1
  have hb := X.2.1
  have hown := X.2.2.2.1
  have hts := X.2.2.2.2.1
  have h : (k12 (x1) ((x2 + (1:Int32))) (sf σ 72 (y1 ||| y2))) = some q := h
  refine lv_ior hx hb dX12_look_41 ?_
  refine mp_members X hP hF dX12_look_42 (fun H locs hP hF => ?_)
  refine lv_iinc (v := (x2 + (1:Int32))) hx hb dX12_look_45 hl (k := 2) rfl rfl (Nat.le_of_ble_eq_true rfl) rfl (fun ls (hl : lv_has ls 3 [(2, .int (x2 + (1:Int32))), (0, .ref mb), (1, .int x1)]) => ?_)
  refine lv_goto (tgt := 12) hx hb dX12_look_48 rfl ?_
  exact hk12 hP hF (lv_sub hl [1, 2, 0] rfl) h
set_option maxRecDepth 20000 in
set_option maxHeartbeats 4000000 in
theorem N_look_12 {p : Program} {l : Launch} {e : Env} {s : State} {m : MethodId} {args : Array Value} {below : List Frame} {meth : Method} {c : Code} {D : mD} {mb : Nat}  {n : Nat} {x1 : Int32} {x2 : Int32} {σ : mS} {H : Heap} {locs : List Loc} {ls : Array Slot} {q : mS} (X : mX p s m args meth c cX12_look 3 none D) (hP : mP D mb σ H) (hF : mF mb s.heap H locs)  (hl : lv_has ls 3 [(0, .ref mb), (1, .int x1), (2, .int x2)]) (h : f_look_12  n x1 x2 σ = some q) : mWw p l e 6 147 s m args below meth c D mb q none H locs (F0 m 12 ls []) := by
  have hx := X.1
  have hb := X.2.1
  have hown := X.2.2.2.1
  have hts := X.2.2.2.2.1
  induction n generalizing x1 x2 σ H locs ls with
  | zero => exact absurd (show none = some q from h) (by simp)
  | succ n ih =>
    have h : (if (σ.2 13) ≤ x2 then (f_look_53 4000 ((0:Int32)) σ) else ((f_treeOf (x2) σ).bind (fun v1 => if v1 = x1 then (f_look_41 (f_look_12 n) (x1) (x2) ((σ.2 72)) (((1:Int32) <<< (x2 &&& 31))) σ) else (f_look_41 (f_look_12 n) (x1) (x2) ((σ.2 72)) ((0:Int32)) σ)))) = some q := h
    refine lv_iload_n hx hb dX12_look_12 rfl (lv_at hl 2 rfl) ?_
    refine lv_aload_n hx hb dX12_look_13 rfl (lv_at hl 0 rfl) ?_
    refine mg_made X hP dX12_look_14 ?_
    refine lv_icmp_ge (tgt := 51) hx hb dX12_look_17 rfl (fun hc => ?_) (fun hc => ?_)
    · have h := ip hc h
      refine lv_iconst (v := (0:Int32)) hx hb dX12_look_51 (by decide) ?_
      refine lv_istore_n hx hb dX12_look_52 rfl hl (Nat.le_of_ble_eq_true rfl) rfl (fun ls (hl : lv_has ls 3 [(2, .int (0:Int32)), (0, .ref mb), (1, .int x1)]) => ?_)
      exact N_look_53 X hP hF (lv_sub hl [1, 0] rfl) h
    · have h := ine hc h
      refine lv_aload_n hx hb dX12_look_20 rfl (lv_at hl 0 rfl) ?_
      refine lv_dup hx hb dX12_look_21 rfl ?_
      refine mg_members X hP dX12_look_22 ?_
      refine lv_aload_n hx hb dX12_look_25 rfl (lv_at hl 0 rfl) ?_
      refine lv_iload_n hx hb dX12_look_26 rfl (lv_at hl 2 rfl) ?_
      obtain ⟨v1, hv1, h⟩ := ob h
      refine cl_treeOf X hP hv1 ⟨Nat.le_of_ble_eq_true rfl, Nat.le_of_ble_eq_true rfl⟩ hl.1 (Nat.le_of_ble_eq_true rfl) dX12_look_27 ?_
      refine lv_iload_n hx hb dX12_look_30 rfl (lv_at hl 1 rfl) ?_
      refine lv_icmp_ne (tgt := 40) hx hb dX12_look_31 rfl (fun hc => ?_) (fun hc => ?_)
      · have h := ine hc h
        refine lv_iconst (v := (0:Int32)) hx hb dX12_look_40 (by decide) ?_
        exact N_look_41 X hP hF ih (lv_sub hl [0, 1, 2] rfl) h
      · have h := ip hc h
        refine lv_iconst (v := (1:Int32)) hx hb dX12_look_34 (by decide) ?_
        refine lv_iload_n hx hb dX12_look_35 rfl (lv_at hl 2 rfl) ?_
        refine lv_ishl hx hb dX12_look_36 ?_
        refine lv_goto (tgt := 41) hx hb dX12_look_37 rfl ?_
        exact N_look_41 X hP hF ih (lv_sub hl [0, 1, 2] rfl) h
set_option maxRecDepth 20000 in
set_option maxHeartbeats 4000000 in
theorem K_look (l : Launch) (D : mD) (mb : Nat) (σ : mS) (x1 : Int32) {q : mS} (h : f_look x1 σ = some q) : Met l yX12_look (Cond.code yX12_look cX12_look 3 none :: BG) (rM 6 147) (mPc D mb σ [.int x1]) (mQw D mb q none) 0 0 (mReg mb) := by
  refine Met.ofW (cc := cX12_look) (maxL := 3) (ret := none) (by decide) rfl ?_
  intro p e s m args below meth c s₁ B hml hv
  obtain ⟨rfl, hP, hK⟩ := hv
  have X := mX_of B hml rfl hK
  have hx := X.1
  have hb := X.2.1
  have hown := X.2.2.2.1
  have hts := X.2.2.2.2.1
  have hl := lv_entry (.ref mb :: [.int x1]) (n := 3) (Nat.le_of_ble_eq_true rfl)
  rw [lg_entry_eq]
  generalize (lg_sl (.ref mb :: [.int x1]) ++ List.replicate (3 - (lg_sl (.ref mb :: [.int x1])).length) Slot.unset).toArray = ls at hl ⊢
  have hl : lv_has ls 3 [(0, .ref mb), (1, .int x1)] := hl
  have hF : mF mb s.heap s.heap [] := mF.rf
  show mWw p l e 6 147 s m (Value.ref mb :: [.int x1]).toArray below meth c D mb q none s.heap [] (F0 m 0 ls [])
  have h : (f_look_12 4000 (x1) ((0:Int32)) (sf (sf σ 71 x1) 72 (0:Int32))) = some q := h
  refine lv_aload_n hx hb dX12_look_0 rfl (lv_at hl 0 rfl) ?_
  refine lv_iload_n hx hb dX12_look_1 rfl (lv_at hl 1 rfl) ?_
  refine mp_tree X hP hF dX12_look_2 (fun H locs hP hF => ?_)
  refine lv_aload_n hx hb dX12_look_5 rfl (lv_at hl 0 rfl) ?_
  refine lv_iconst (v := (0:Int32)) hx hb dX12_look_6 (by decide) ?_
  refine mp_members X hP hF dX12_look_7 (fun H locs hP hF => ?_)
  refine lv_iconst (v := (0:Int32)) hx hb dX12_look_10 (by decide) ?_
  refine lv_istore_n hx hb dX12_look_11 rfl hl (Nat.le_of_ble_eq_true rfl) rfl (fun ls (hl : lv_has ls 3 [(2, .int (0:Int32)), (0, .ref mb), (1, .int x1)]) => ?_)
  exact N_look_12 X hP hF (lv_sub hl [1, 2, 0] rfl) h
theorem cl_look {p : Program} {l : Launch} {e : Env} {s : State} {m : MethodId} {args : Array Value} {below : List Frame} {meth : Method} {c : Code} {D : mD} {mb : Nat} {H : Heap} {locs : List Loc} {Q : State → Prop} {cc : ByteArray} {pc fR lR nL : Nat} {ls : Array Slot} {rest : List Value} {ret : Option FieldType} {σ : mS} (X : mX p s m args meth c cc nL ret D) (hP : mP D mb σ H) (hF : mF mb s.heap H locs) {x1 : Int32} {q : mS} (h : f_look x1 σ = some q) (hr : 6 + 1 ≤ fR ∧ 8 + (3 + 11) + 147 ≤ lR) (hl : ls.size = nL) (hW : (rest.map fun v => v.category).sum ≤ 8) (hdg : decode cc pc = .ok (.invokevirtual 322, 3)) (kk : ∀ (H1 : Heap) (locs1 : List Loc), mP D mb q H1 → mF mb s.heap H1 locs1 → W p l e (rM fR lR) s m args below meth c H1 locs1 0 0 Q (F0 m (pc + 3) ls rest)) : W p l e (rM fR lR) s m args below meth c H locs 0 0 Q (F0 m pc ls (.int x1 :: .ref mb :: rest)) := m_cv (m_run (n := 1) X (K_look l D mb σ x1 h) ⟨w_2027, w_2029, w_87, w_2030⟩ (hyX rfl (by decide +kernel)) rfl hr hP hl hW hdg rfl) hF kk
-- hits()V
def f_hits_65 (k2 : Int32 → mS → Option (mS)) (k22 : Int32 → Int32 → mS → Option (mS)) (x1 : Int32) (x2 : Int32) (y1 : Int32) (y2 : Int32) (σ : mS) : Option (mS) := (wr σ 74 y1 y2).bind (fun s1 => k22 (x1) ((x2 + (1:Int32))) s1)
def f_hits_22 (k2 : Int32 → mS → Option (mS)) : Nat → Int32 → Int32 → mS → Option (mS)
  | 0, _, _, _ => none
  | n + 1, x1, x2, σ => if (σ.2 36) ≤ x2 then (k2 ((x1 + (1:Int32))) σ) else ((rd σ 32 x2).bind (fun v1 => if v1 = x1 then ((rd σ 33 x2).bind (fun v3 => (rd σ 73 v3).bind (fun v4 => f_hits_65 k2 (f_hits_22 k2 n) (x1) (x2) (x2) (v4) σ))) else ((rd σ 74 x2).bind (fun v2 => f_hits_65 k2 (f_hits_22 k2 n) (x1) (x2) (x2) (v2) σ))))
def f_hits_2  : Nat → Int32 → mS → Option (mS)
  | 0, _, _ => none
  | n + 1, x1, σ => if (σ.2 31) ≤ x1 then (some σ) else ((rd σ 28 x1).bind (fun v1 => (f_look (v1) σ).bind (fun v2 => f_hits_22 (f_hits_2 n) 4000 (x1) ((0:Int32)) v2)))
def f_hits  (σ : mS) : Option (mS) := f_hits_2 4000 ((0:Int32)) σ
set_option maxRecDepth 20000 in
set_option maxHeartbeats 4000000 in
theorem N_hits_65 {p : Program} {l : Launch} {e : Env} {s : State} {m : MethodId} {args : Array Value} {below : List Frame} {meth : Method} {c : Code} {D : mD} {mb : Nat} {k2 : Int32 → mS → Option (mS)} {k22 : Int32 → Int32 → mS → Option (mS)}  {x1 : Int32} {x2 : Int32} {y1 : Int32} {y2 : Int32} {σ : mS} {H : Heap} {locs : List Loc} {ls : Array Slot} {q : mS} (X : mX p s m args meth c cX12_hits 3 none D) (hP : mP D mb σ H) (hF : mF mb s.heap H locs) (hk2 : ∀ {x1 : Int32} {σ : mS} {H : Heap} {locs : List Loc} {ls : Array Slot}, mP D mb σ H → mF mb s.heap H locs → lv_has ls 3 [(0, .ref mb), (1, .int x1)] → k2 x1 σ = some q → mWw p l e 7 169 s m args below meth c D mb q none H locs (F0 m 2 ls [])) (hk22 : ∀ {x1 : Int32} {x2 : Int32} {σ : mS} {H : Heap} {locs : List Loc} {ls : Array Slot}, mP D mb σ H → mF mb s.heap H locs → lv_has ls 3 [(0, .ref mb), (1, .int x1), (2, .int x2)] → k22 x1 x2 σ = some q → mWw p l e 7 169 s m args below meth c D mb q none H locs (F0 m 22 ls [])) (hl : lv_has ls 3 [(0, .ref mb), (1, .int x1), (2, .int x2)]) (h : f_hits_65 k2 k22 x1 x2 y1 y2 σ = some q) : mWw p l e 7 169 s m args below meth c D mb q none H locs (F0 m 65 ls [.int y2, .int y1, .ref (mA mb 74)]) := by
  have hx := X.1
  have hb := X.2.1
  have hown := X.2.2.2.1
  have hts := X.2.2.2.2.1
  have h : ((wr σ 74 y1 y2).bind (fun s1 => k22 (x1) ((x2 + (1:Int32))) s1)) = some q := h
  obtain ⟨s1, hs1, h⟩ := ob h
  refine m_ast X hP hF hs1 dX12_hits_65 (fun H locs hP hF => ?_)
  refine lv_iinc (v := (x2 + (1:Int32))) hx hb dX12_hits_66 hl (k := 2) rfl rfl (Nat.le_of_ble_eq_true rfl) rfl (fun ls (hl : lv_has ls 3 [(2, .int (x2 + (1:Int32))), (0, .ref mb), (1, .int x1)]) => ?_)
  refine lv_goto (tgt := 22) hx hb dX12_hits_69 rfl ?_
  exact hk22 hP hF (lv_sub hl [1, 2, 0] rfl) h
set_option maxRecDepth 20000 in
set_option maxHeartbeats 4000000 in
theorem N_hits_22 {p : Program} {l : Launch} {e : Env} {s : State} {m : MethodId} {args : Array Value} {below : List Frame} {meth : Method} {c : Code} {D : mD} {mb : Nat} {k2 : Int32 → mS → Option (mS)} {n : Nat} {x1 : Int32} {x2 : Int32} {σ : mS} {H : Heap} {locs : List Loc} {ls : Array Slot} {q : mS} (X : mX p s m args meth c cX12_hits 3 none D) (hP : mP D mb σ H) (hF : mF mb s.heap H locs) (hk2 : ∀ {x1 : Int32} {σ : mS} {H : Heap} {locs : List Loc} {ls : Array Slot}, mP D mb σ H → mF mb s.heap H locs → lv_has ls 3 [(0, .ref mb), (1, .int x1)] → k2 x1 σ = some q → mWw p l e 7 169 s m args below meth c D mb q none H locs (F0 m 2 ls [])) (hl : lv_has ls 3 [(0, .ref mb), (1, .int x1), (2, .int x2)]) (h : f_hits_22 k2 n x1 x2 σ = some q) : mWw p l e 7 169 s m args below meth c D mb q none H locs (F0 m 22 ls []) := by
  have hx := X.1
  have hb := X.2.1
  have hown := X.2.2.2.1
  have hts := X.2.2.2.2.1
  induction n generalizing x1 x2 σ H locs ls with
  | zero => exact absurd (show none = some q from h) (by simp)
  | succ n ih =>
    have h : (if (σ.2 36) ≤ x2 then (k2 ((x1 + (1:Int32))) σ) else ((rd σ 32 x2).bind (fun v1 => if v1 = x1 then ((rd σ 33 x2).bind (fun v3 => (rd σ 73 v3).bind (fun v4 => f_hits_65 k2 (f_hits_22 k2 n) (x1) (x2) (x2) (v4) σ))) else ((rd σ 74 x2).bind (fun v2 => f_hits_65 k2 (f_hits_22 k2 n) (x1) (x2) (x2) (v2) σ))))) = some q := h
    refine lv_iload_n hx hb dX12_hits_22 rfl (lv_at hl 2 rfl) ?_
    refine lv_aload_n hx hb dX12_hits_23 rfl (lv_at hl 0 rfl) ?_
    refine mg_rules X hP dX12_hits_24 ?_
    refine lv_icmp_ge (tgt := 72) hx hb dX12_hits_27 rfl (fun hc => ?_) (fun hc => ?_)
    · have h := ip hc h
      refine lv_iinc (v := (x1 + (1:Int32))) hx hb dX12_hits_72 hl (k := 1) rfl rfl (Nat.le_of_ble_eq_true rfl) rfl (fun ls (hl : lv_has ls 3 [(1, .int (x1 + (1:Int32))), (0, .ref mb), (2, .int x2)]) => ?_)
      refine lv_goto (tgt := 2) hx hb dX12_hits_75 rfl ?_
      exact hk2 hP hF (lv_sub hl [1, 0] rfl) h
    · have h := ine hc h
      refine lv_aload_n hx hb dX12_hits_30 rfl (lv_at hl 0 rfl) ?_
      refine mg_hit X hP dX12_hits_31 ?_
      refine lv_iload_n hx hb dX12_hits_34 rfl (lv_at hl 2 rfl) ?_
      refine lv_aload_n hx hb dX12_hits_35 rfl (lv_at hl 0 rfl) ?_
      refine mg_rs X hP dX12_hits_36 ?_
      refine lv_iload_n hx hb dX12_hits_39 rfl (lv_at hl 2 rfl) ?_
      obtain ⟨v1, hv1, h⟩ := ob h
      refine m_ald X hP hv1 dX12_hits_40 ?_
      refine lv_iload_n hx hb dX12_hits_41 rfl (lv_at hl 1 rfl) ?_
      refine lv_icmp_ne (tgt := 59) hx hb dX12_hits_42 rfl (fun hc => ?_) (fun hc => ?_)
      · have h := ine hc h
        refine lv_aload_n hx hb dX12_hits_59 rfl (lv_at hl 0 rfl) ?_
        refine mg_hit X hP dX12_hits_60 ?_
        refine lv_iload_n hx hb dX12_hits_63 rfl (lv_at hl 2 rfl) ?_
        obtain ⟨v2, hv2, h⟩ := ob h
        refine m_ald X hP hv2 dX12_hits_64 ?_
        exact N_hits_65 X hP hF hk2 ih (lv_sub hl [0, 1, 2] rfl) h
      · have h := ip hc h
        refine lv_aload_n hx hb dX12_hits_45 rfl (lv_at hl 0 rfl) ?_
        refine mg_set X hP dX12_hits_46 ?_
        refine lv_aload_n hx hb dX12_hits_49 rfl (lv_at hl 0 rfl) ?_
        refine mg_rsel X hP dX12_hits_50 ?_
        refine lv_iload_n hx hb dX12_hits_53 rfl (lv_at hl 2 rfl) ?_
        obtain ⟨v3, hv3, h⟩ := ob h
        refine m_ald X hP hv3 dX12_hits_54 ?_
        obtain ⟨v4, hv4, h⟩ := ob h
        refine m_ald X hP hv4 dX12_hits_55 ?_
        refine lv_goto (tgt := 65) hx hb dX12_hits_56 rfl ?_
        exact N_hits_65 X hP hF hk2 ih (lv_sub hl [0, 1, 2] rfl) h
set_option maxRecDepth 20000 in
set_option maxHeartbeats 4000000 in
theorem N_hits_2 {p : Program} {l : Launch} {e : Env} {s : State} {m : MethodId} {args : Array Value} {below : List Frame} {meth : Method} {c : Code} {D : mD} {mb : Nat}  {n : Nat} {x1 : Int32} {σ : mS} {H : Heap} {locs : List Loc} {ls : Array Slot} {q : mS} (X : mX p s m args meth c cX12_hits 3 none D) (hP : mP D mb σ H) (hF : mF mb s.heap H locs)  (hl : lv_has ls 3 [(0, .ref mb), (1, .int x1)]) (h : f_hits_2  n x1 σ = some q) : mWw p l e 7 169 s m args below meth c D mb q none H locs (F0 m 2 ls []) := by
  have hx := X.1
  have hb := X.2.1
  have hown := X.2.2.2.1
  have hts := X.2.2.2.2.1
  induction n generalizing x1 σ H locs ls with
  | zero => exact absurd (show none = some q from h) (by simp)
  | succ n ih =>
    have h : (if (σ.2 31) ≤ x1 then (some σ) else ((rd σ 28 x1).bind (fun v1 => (f_look (v1) σ).bind (fun v2 => f_hits_22 (f_hits_2 n) 4000 (x1) ((0:Int32)) v2)))) = some q := h
    refine lv_iload_n hx hb dX12_hits_2 rfl (lv_at hl 1 rfl) ?_
    refine lv_aload_n hx hb dX12_hits_3 rfl (lv_at hl 0 rfl) ?_
    refine mg_sheets X hP dX12_hits_4 ?_
    refine lv_icmp_ge (tgt := 78) hx hb dX12_hits_7 rfl (fun hc => ?_) (fun hc => ?_)
    · have h := ip hc h
      obtain rfl := sj h
      exact m_wv X hP hF dX12_hits_78
    · have h := ine hc h
      refine lv_aload_n hx hb dX12_hits_10 rfl (lv_at hl 0 rfl) ?_
      refine lv_aload_n hx hb dX12_hits_11 rfl (lv_at hl 0 rfl) ?_
      refine mg_sh X hP dX12_hits_12 ?_
      refine lv_iload_n hx hb dX12_hits_15 rfl (lv_at hl 1 rfl) ?_
      obtain ⟨v1, hv1, h⟩ := ob h
      refine m_ald X hP hv1 dX12_hits_16 ?_
      obtain ⟨v2, hv2, h⟩ := ob h
      refine cl_look X hP hF hv2 ⟨Nat.le_of_ble_eq_true rfl, Nat.le_of_ble_eq_true rfl⟩ hl.1 (Nat.le_of_ble_eq_true rfl) dX12_hits_17 (fun H locs hP hF => ?_)
      refine lv_iconst (v := (0:Int32)) hx hb dX12_hits_20 (by decide) ?_
      refine lv_istore_n hx hb dX12_hits_21 rfl hl (Nat.le_of_ble_eq_true rfl) rfl (fun ls (hl : lv_has ls 3 [(2, .int (0:Int32)), (0, .ref mb), (1, .int x1)]) => ?_)
      exact N_hits_22 X hP hF ih (lv_sub hl [1, 2, 0] rfl) h
set_option maxRecDepth 20000 in
set_option maxHeartbeats 4000000 in
theorem K_hits (l : Launch) (D : mD) (mb : Nat) (σ : mS)  {q : mS} (h : f_hits  σ = some q) : Met l yX12_hits (Cond.code yX12_hits cX12_hits 3 none :: BG) (rM 7 169) (mPc D mb σ []) (mQw D mb q none) 0 0 (mReg mb) := by
  refine Met.ofW (cc := cX12_hits) (maxL := 3) (ret := none) (by decide) rfl ?_
  intro p e s m args below meth c s₁ B hml hv
  obtain ⟨rfl, hP, hK⟩ := hv
  have X := mX_of B hml rfl hK
  have hx := X.1
  have hb := X.2.1
  have hown := X.2.2.2.1
  have hts := X.2.2.2.2.1
  have hl := lv_entry (.ref mb :: []) (n := 3) (Nat.le_of_ble_eq_true rfl)
  rw [lg_entry_eq]
  generalize (lg_sl (.ref mb :: []) ++ List.replicate (3 - (lg_sl (.ref mb :: [])).length) Slot.unset).toArray = ls at hl ⊢
  have hl : lv_has ls 3 [(0, .ref mb)] := hl
  have hF : mF mb s.heap s.heap [] := mF.rf
  show mWw p l e 7 169 s m (Value.ref mb :: []).toArray below meth c D mb q none s.heap [] (F0 m 0 ls [])
  have h : (f_hits_2 4000 ((0:Int32)) σ) = some q := h
  refine lv_iconst (v := (0:Int32)) hx hb dX12_hits_0 (by decide) ?_
  refine lv_istore_n hx hb dX12_hits_1 rfl hl (Nat.le_of_ble_eq_true rfl) rfl (fun ls (hl : lv_has ls 3 [(1, .int (0:Int32)), (0, .ref mb)]) => ?_)
  exact N_hits_2 X hP hF (lv_sub hl [1, 0] rfl) h
theorem cl_hits {p : Program} {l : Launch} {e : Env} {s : State} {m : MethodId} {args : Array Value} {below : List Frame} {meth : Method} {c : Code} {D : mD} {mb : Nat} {H : Heap} {locs : List Loc} {Q : State → Prop} {cc : ByteArray} {pc fR lR nL : Nat} {ls : Array Slot} {rest : List Value} {ret : Option FieldType} {σ : mS} (X : mX p s m args meth c cc nL ret D) (hP : mP D mb σ H) (hF : mF mb s.heap H locs)  {q : mS} (h : f_hits  σ = some q) (hr : 7 + 1 ≤ fR ∧ 8 + (3 + 11) + 169 ≤ lR) (hl : ls.size = nL) (hW : (rest.map fun v => v.category).sum ≤ 8) (hdg : decode cc pc = .ok (.invokevirtual 450, 3)) (kk : ∀ (H1 : Heap) (locs1 : List Loc), mP D mb q H1 → mF mb s.heap H1 locs1 → W p l e (rM fR lR) s m args below meth c H1 locs1 0 0 Q (F0 m (pc + 3) ls rest)) : W p l e (rM fR lR) s m args below meth c H locs 0 0 Q (F0 m pc ls (.ref mb :: rest)) := m_cv (m_run (n := 0) X (K_hits l D mb σ  h) ⟨w_2155, w_2157, w_109, w_2158⟩ (hyX rfl (by decide +kernel)) rfl hr hP hl hW hdg rfl) hF kk
-- bits(I)I
def f_bits_84  (y0 : Int32) (σ : mS) : Option (Int32) := some y0
def f_bits (x1 : Int32) (σ : mS) : Option (Int32) := (rd σ 17 x1).bind (fun v1 => if v1 = (1:Int32) then ((rd σ 18 x1).bind (fun v7 => f_bits_84 (((1:Int32) <<< (v7 &&& 31))) σ)) else ((rd σ 17 x1).bind (fun v2 => if v2 = (2:Int32) then ((rd σ 18 x1).bind (fun v6 => f_bits_84 (((256:Int32) <<< (v6 &&& 31))) σ)) else ((rd σ 17 x1).bind (fun v3 => if v3 = (3:Int32) then ((rd σ 18 x1).bind (fun v5 => f_bits_84 (((4096:Int32) <<< (v5 &&& 31))) σ)) else ((rd σ 17 x1).bind (fun v4 => if v4 = (4:Int32) then (f_bits_84 ((16384:Int32)) σ) else (f_bits_84 ((0:Int32)) σ))))))))
set_option maxRecDepth 20000 in
set_option maxHeartbeats 4000000 in
theorem N_bits_84 {p : Program} {l : Launch} {e : Env} {s : State} {m : MethodId} {args : Array Value} {below : List Frame} {meth : Method} {c : Code} {D : mD} {mb : Nat}   {y0 : Int32} {σ : mS} {ls : Array Slot} {r : Int32} (X : mX p s m args meth c cX12_bits 2 (some .int) D) (hP : mP D mb σ s.heap)  (hl : lv_has ls 2 [(0, .ref mb)]) (h : f_bits_84  y0 σ = some r) : mWr p l e 0 0 s m args below meth c (some (.int r)) (F0 m 84 ls [.int y0]) := by
  have hx := X.1
  have hb := X.2.1
  have hown := X.2.2.2.1
  have hts := X.2.2.2.2.1
  have h : (some y0) = some r := h
  obtain rfl := sj h
  exact m_ri X dX12_bits_84
set_option maxRecDepth 20000 in
set_option maxHeartbeats 4000000 in
theorem K_bits (l : Launch) (D : mD) (mb : Nat) (σ : mS) (x1 : Int32) {r : Int32} (h : f_bits x1 σ = some r) : Met l yX12_bits (Cond.code yX12_bits cX12_bits 2 (some .int) :: BG) (rM 0 0) (mPc D mb σ [.int x1]) (mQr (some (.int r))) 0 0 (fun _ => False) := by
  refine Met.ofW (cc := cX12_bits) (maxL := 2) (ret := (some .int)) (by decide) rfl ?_
  intro p e s m args below meth c s₁ B hml hv
  obtain ⟨rfl, hP, hK⟩ := hv
  have X := mX_of B hml rfl hK
  have hx := X.1
  have hb := X.2.1
  have hown := X.2.2.2.1
  have hts := X.2.2.2.2.1
  have hl := lv_entry (.ref mb :: [.int x1]) (n := 2) (Nat.le_of_ble_eq_true rfl)
  rw [lg_entry_eq]
  generalize (lg_sl (.ref mb :: [.int x1]) ++ List.replicate (2 - (lg_sl (.ref mb :: [.int x1])).length) Slot.unset).toArray = ls at hl ⊢
  have hl : lv_has ls 2 [(0, .ref mb), (1, .int x1)] := hl
  show mWr p l e 0 0 s m (Value.ref mb :: [.int x1]).toArray below meth c (some (.int r)) (F0 m 0 ls [])
  have h : ((rd σ 17 x1).bind (fun v1 => if v1 = (1:Int32) then ((rd σ 18 x1).bind (fun v7 => f_bits_84 (((1:Int32) <<< (v7 &&& 31))) σ)) else ((rd σ 17 x1).bind (fun v2 => if v2 = (2:Int32) then ((rd σ 18 x1).bind (fun v6 => f_bits_84 (((256:Int32) <<< (v6 &&& 31))) σ)) else ((rd σ 17 x1).bind (fun v3 => if v3 = (3:Int32) then ((rd σ 18 x1).bind (fun v5 => f_bits_84 (((4096:Int32) <<< (v5 &&& 31))) σ)) else ((rd σ 17 x1).bind (fun v4 => if v4 = (4:Int32) then (f_bits_84 ((16384:Int32)) σ) else (f_bits_84 ((0:Int32)) σ))))))))) = some r := h
  refine lv_aload_n hx hb dX12_bits_0 rfl (lv_at hl 0 rfl) ?_
  refine mg_tk X hP dX12_bits_1 ?_
  refine lv_iload_n hx hb dX12_bits_4 rfl (lv_at hl 1 rfl) ?_
  obtain ⟨v1, hv1, h⟩ := ob h
  refine m_ald X hP hv1 dX12_bits_5 ?_
  refine lv_iconst (v := (1:Int32)) hx hb dX12_bits_6 (by decide) ?_
  refine lv_icmp_ne (tgt := 21) hx hb dX12_bits_7 rfl (fun hc => ?_) (fun hc => ?_)
  · have h := ine hc h
    refine lv_aload_n hx hb dX12_bits_21 rfl (lv_at hl 0 rfl) ?_
    refine mg_tk X hP dX12_bits_22 ?_
    refine lv_iload_n hx hb dX12_bits_25 rfl (lv_at hl 1 rfl) ?_
    obtain ⟨v2, hv2, h⟩ := ob h
    refine m_ald X hP hv2 dX12_bits_26 ?_
    refine lv_iconst (v := (2:Int32)) hx hb dX12_bits_27 (by decide) ?_
    refine lv_icmp_ne (tgt := 44) hx hb dX12_bits_28 rfl (fun hc => ?_) (fun hc => ?_)
    · have h := ine hc h
      refine lv_aload_n hx hb dX12_bits_44 rfl (lv_at hl 0 rfl) ?_
      refine mg_tk X hP dX12_bits_45 ?_
      refine lv_iload_n hx hb dX12_bits_48 rfl (lv_at hl 1 rfl) ?_
      obtain ⟨v3, hv3, h⟩ := ob h
      refine m_ald X hP hv3 dX12_bits_49 ?_
      refine lv_iconst (v := (3:Int32)) hx hb dX12_bits_50 (by decide) ?_
      refine lv_icmp_ne (tgt := 67) hx hb dX12_bits_51 rfl (fun hc => ?_) (fun hc => ?_)
      · have h := ine hc h
        refine lv_aload_n hx hb dX12_bits_67 rfl (lv_at hl 0 rfl) ?_
        refine mg_tk X hP dX12_bits_68 ?_
        refine lv_iload_n hx hb dX12_bits_71 rfl (lv_at hl 1 rfl) ?_
        obtain ⟨v4, hv4, h⟩ := ob h
        refine m_ald X hP hv4 dX12_bits_72 ?_
        refine lv_iconst (v := (4:Int32)) hx hb dX12_bits_73 (by decide) ?_
        refine lv_icmp_ne (tgt := 83) hx hb dX12_bits_74 rfl (fun hc => ?_) (fun hc => ?_)
        · have h := ine hc h
          refine lv_iconst (v := (0:Int32)) hx hb dX12_bits_83 (by decide) ?_
          exact N_bits_84 X hP (lv_sub hl [0] rfl) h
        · have h := ip hc h
          refine lv_sipush (v := (16384:Int32)) hx hb dX12_bits_77 (by decide) ?_
          refine lv_goto (tgt := 84) hx hb dX12_bits_80 rfl ?_
          exact N_bits_84 X hP (lv_sub hl [0] rfl) h
      · have h := ip hc h
        refine lv_sipush (v := (4096:Int32)) hx hb dX12_bits_54 (by decide) ?_
        refine lv_aload_n hx hb dX12_bits_57 rfl (lv_at hl 0 rfl) ?_
        refine mg_ta X hP dX12_bits_58 ?_
        refine lv_iload_n hx hb dX12_bits_61 rfl (lv_at hl 1 rfl) ?_
        obtain ⟨v5, hv5, h⟩ := ob h
        refine m_ald X hP hv5 dX12_bits_62 ?_
        refine lv_ishl hx hb dX12_bits_63 ?_
        refine lv_goto (tgt := 84) hx hb dX12_bits_64 rfl ?_
        exact N_bits_84 X hP (lv_sub hl [0] rfl) h
    · have h := ip hc h
      refine lv_sipush (v := (256:Int32)) hx hb dX12_bits_31 (by decide) ?_
      refine lv_aload_n hx hb dX12_bits_34 rfl (lv_at hl 0 rfl) ?_
      refine mg_ta X hP dX12_bits_35 ?_
      refine lv_iload_n hx hb dX12_bits_38 rfl (lv_at hl 1 rfl) ?_
      obtain ⟨v6, hv6, h⟩ := ob h
      refine m_ald X hP hv6 dX12_bits_39 ?_
      refine lv_ishl hx hb dX12_bits_40 ?_
      refine lv_goto (tgt := 84) hx hb dX12_bits_41 rfl ?_
      exact N_bits_84 X hP (lv_sub hl [0] rfl) h
  · have h := ip hc h
    refine lv_iconst (v := (1:Int32)) hx hb dX12_bits_10 (by decide) ?_
    refine lv_aload_n hx hb dX12_bits_11 rfl (lv_at hl 0 rfl) ?_
    refine mg_ta X hP dX12_bits_12 ?_
    refine lv_iload_n hx hb dX12_bits_15 rfl (lv_at hl 1 rfl) ?_
    obtain ⟨v7, hv7, h⟩ := ob h
    refine m_ald X hP hv7 dX12_bits_16 ?_
    refine lv_ishl hx hb dX12_bits_17 ?_
    refine lv_goto (tgt := 84) hx hb dX12_bits_18 rfl ?_
    exact N_bits_84 X hP (lv_sub hl [0] rfl) h
theorem cl_bits {p : Program} {l : Launch} {e : Env} {s : State} {m : MethodId} {args : Array Value} {below : List Frame} {meth : Method} {c : Code} {D : mD} {mb : Nat} {H : Heap} {locs : List Loc} {Q : State → Prop} {cc : ByteArray} {pc fR lR nL : Nat} {ls : Array Slot} {rest : List Value} {ret : Option FieldType} {σ : mS} (X : mX p s m args meth c cc nL ret D) (hP : mP D mb σ H) {x1 : Int32} {r : Int32} (h : f_bits x1 σ = some r) (hr : 0 + 1 ≤ fR ∧ 8 + (2 + 11) + 0 ≤ lR) (hl : ls.size = nL) (hW : (rest.map fun v => v.category).sum ≤ 8) (hdg : decode cc pc = .ok (.invokevirtual 328, 3)) (kk : W p l e (rM fR lR) s m args below meth c H locs 0 0 Q (F0 m (pc + 3) ls (.int r :: rest))) : W p l e (rM fR lR) s m args below meth c H locs 0 0 Q (F0 m pc ls (.int x1 :: .ref mb :: rest)) := m_cr (m_run (n := 1) X (K_bits l D mb σ x1 h) ⟨w_2006, w_2008, w_84, w_2009⟩ (hyX rfl (by decide +kernel)) rfl hr hP hl hW hdg rfl) kk
-- study(I)V
def f_study_412  (y1 : Int32) (y2 : Int32) (σ : mS) : Option (mS) := (wr σ 24 y1 y2).bind (fun s1 => some s1)
def f_study_406  (x4 : Int32) (y1 : Int32) (σ : mS) : Option (mS) := f_study_412 (y1) (x4) σ
def f_study_351 (k10 : Int32 → Int32 → Int32 → Int32 → Int32 → mS → Option (mS)) (k76 : Int32 → Int32 → Int32 → Int32 → Int32 → Int32 → Int32 → mS → Option (mS)) (x1 : Int32) (x2 : Int32) (x3 : Int32) (x5 : Int32) (x6 : Int32) (x7 : Int32) (y0 : Int32) (y1 : Int32) (y2 : Int32) (σ : mS) : Option (mS) := k76 (x1) (x2) (x3) ((y0 ||| (y1 ||| y2))) (x5) (x6) ((x7 + (1:Int32))) σ
def f_study_346 (k10 : Int32 → Int32 → Int32 → Int32 → Int32 → mS → Option (mS)) (k76 : Int32 → Int32 → Int32 → Int32 → Int32 → Int32 → Int32 → mS → Option (mS)) (x1 : Int32) (x2 : Int32) (x3 : Int32) (x5 : Int32) (x6 : Int32) (x7 : Int32) (y0 : Int32) (y1 : Int32) (y2 : Int32) (y3 : Int32) (σ : mS) : Option (mS) := f_study_351 k10 k76 (x1) (x2) (x3) (x5) (x6) (x7) (y0) (y1) ((y2 ||| y3)) σ
def f_study_304 (k10 : Int32 → Int32 → Int32 → Int32 → Int32 → mS → Option (mS)) (k76 : Int32 → Int32 → Int32 → Int32 → Int32 → Int32 → Int32 → mS → Option (mS)) (x1 : Int32) (x2 : Int32) (x4 : Int32) (x5 : Int32) (x6 : Int32) (x7 : Int32) (x8 : Int32) (x9 : Int32) (x12 : Int32) (y0 : Int32) (y1 : Int32) (σ : mS) : Option (mS) := (rd σ 17 x8).bind (fun v1 => if v1 = (7:Int32) then ((rd σ 18 x8).bind (fun v2 => if v2 ≤ (1:Int32) then (f_study_346 k10 k76 (x1) (x2) ((y0 ||| y1)) (x5) (x6) (x7) (x4) ((x9 ||| x12)) ((32768:Int32)) ((0:Int32)) σ) else (f_study_346 k10 k76 (x1) (x2) ((y0 ||| y1)) (x5) (x6) (x7) (x4) ((x9 ||| x12)) ((32768:Int32)) ((16384:Int32)) σ))) else (f_study_351 k10 k76 (x1) (x2) ((y0 ||| y1)) (x5) (x6) (x7) (x4) ((x9 ||| x12)) ((0:Int32)) σ))
def f_study_284 (k10 : Int32 → Int32 → Int32 → Int32 → Int32 → mS → Option (mS)) (k76 : Int32 → Int32 → Int32 → Int32 → Int32 → Int32 → Int32 → mS → Option (mS)) (x1 : Int32) (x2 : Int32) (x4 : Int32) (x5 : Int32) (x6 : Int32) (x7 : Int32) (x8 : Int32) (x9 : Int32) (x11 : Int32) (x12 : Int32) (x13 : Int32) (y0 : Int32) (y1 : Int32) (σ : mS) : Option (mS) := if x13 = (0:Int32) then (f_study_304 k10 k76 (x1) (x2) (x4) (x5) (x6) (x7) (x8) (x9) (x12) ((y0 ||| y1)) (x12) σ) else ((rd σ 24 x11).bind (fun v1 => f_study_304 k10 k76 (x1) (x2) (x4) (x5) (x6) (x7) (x8) (x9) (x12) ((y0 ||| y1)) (v1) σ))
def f_study_270 (k10 : Int32 → Int32 → Int32 → Int32 → Int32 → mS → Option (mS)) (k76 : Int32 → Int32 → Int32 → Int32 → Int32 → Int32 → Int32 → mS → Option (mS)) (x1 : Int32) (x3 : Int32) (x4 : Int32) (x5 : Int32) (x6 : Int32) (x7 : Int32) (x8 : Int32) (x9 : Int32) (x11 : Int32) (x12 : Int32) (x13 : Int32) (y0 : Int32) (y1 : Int32) (σ : mS) : Option (mS) := if x6 = (0:Int32) then (f_study_284 k10 k76 (x1) ((y0 ||| y1)) (x4) (x5) (x6) (x7) (x8) (x9) (x11) (x12) (x13) (x3) (x9) σ) else (f_study_284 k10 k76 (x1) ((y0 ||| y1)) (x4) (x5) (x6) (x7) (x8) (x9) (x11) (x12) (x13) (x3) ((0:Int32)) σ)
def f_study_251 (k10 : Int32 → Int32 → Int32 → Int32 → Int32 → mS → Option (mS)) (k76 : Int32 → Int32 → Int32 → Int32 → Int32 → Int32 → Int32 → mS → Option (mS)) (x1 : Int32) (x3 : Int32) (x4 : Int32) (x5 : Int32) (x6 : Int32) (x7 : Int32) (x8 : Int32) (x9 : Int32) (x11 : Int32) (x12 : Int32) (x13 : Int32) (y0 : Int32) (y1 : Int32) (σ : mS) : Option (mS) := if x13 = (0:Int32) then (f_study_270 k10 k76 (x1) (x3) (x4) (x5) (x6) (x7) (x8) (x9) (x11) (x12) (x13) ((y0 ||| y1)) ((0:Int32)) σ) else ((rd σ 23 x11).bind (fun v1 => f_study_270 k10 k76 (x1) (x3) (x4) (x5) (x6) (x7) (x8) (x9) (x11) (x12) (x13) ((y0 ||| y1)) (v1) σ))
def f_study_237 (k10 : Int32 → Int32 → Int32 → Int32 → Int32 → mS → Option (mS)) (k76 : Int32 → Int32 → Int32 → Int32 → Int32 → Int32 → Int32 → mS → Option (mS)) (x1 : Int32) (x2 : Int32) (x3 : Int32) (x4 : Int32) (x5 : Int32) (x6 : Int32) (x7 : Int32) (x8 : Int32) (x9 : Int32) (x11 : Int32) (x12 : Int32) (y0 : Int32) (σ : mS) : Option (mS) := if x6 = (0:Int32) then (f_study_251 k10 k76 (x1) (x3) (x4) (x5) (x6) (x7) (x8) (x9) (x11) (x12) (y0) (x2) ((0:Int32)) σ) else (f_study_251 k10 k76 (x1) (x3) (x4) (x5) (x6) (x7) (x8) (x9) (x11) (x12) (y0) (x2) (x9) σ)
def f_study_236 (k10 : Int32 → Int32 → Int32 → Int32 → Int32 → mS → Option (mS)) (k76 : Int32 → Int32 → Int32 → Int32 → Int32 → Int32 → Int32 → mS → Option (mS)) (x1 : Int32) (x2 : Int32) (x3 : Int32) (x4 : Int32) (x5 : Int32) (x6 : Int32) (x7 : Int32) (x8 : Int32) (x9 : Int32) (x11 : Int32) (x12 : Int32) (σ : mS) : Option (mS) := f_study_237 k10 k76 (x1) (x2) (x3) (x4) (x5) (x6) (x7) (x8) (x9) (x11) (x12) ((0:Int32)) σ
def f_study_227 (k10 : Int32 → Int32 → Int32 → Int32 → Int32 → mS → Option (mS)) (k76 : Int32 → Int32 → Int32 → Int32 → Int32 → Int32 → Int32 → mS → Option (mS)) (x1 : Int32) (x2 : Int32) (x3 : Int32) (x4 : Int32) (x5 : Int32) (x6 : Int32) (x7 : Int32) (x8 : Int32) (x9 : Int32) (x11 : Int32) (x12 : Int32) (y1 : Int32) (σ : mS) : Option (mS) := (rd σ 14 y1).bind (fun v1 => if v1 = (1:Int32) then (f_study_237 k10 k76 (x1) (x2) (x3) (x4) (x5) (x6) (x7) (x8) (x9) (x11) (x12) ((1:Int32)) σ) else (f_study_236 k10 k76 (x1) (x2) (x3) (x4) (x5) (x6) (x7) (x8) (x9) (x11) (x12) σ))
def f_study_200 (k10 : Int32 → Int32 → Int32 → Int32 → Int32 → mS → Option (mS)) (k76 : Int32 → Int32 → Int32 → Int32 → Int32 → Int32 → Int32 → mS → Option (mS)) (x1 : Int32) (x2 : Int32) (x3 : Int32) (x4 : Int32) (x5 : Int32) (x6 : Int32) (x7 : Int32) (x8 : Int32) (x9 : Int32) (x10 : Int32) (x11 : Int32) (y0 : Int32) (σ : mS) : Option (mS) := if x6 = (0:Int32) then (f_study_236 k10 k76 (x1) (x2) (x3) (x4) (x5) (x6) (x7) (x8) (x9) (x11) (y0) σ) else (if x10 = (0:Int32) then (f_study_236 k10 k76 (x1) (x2) (x3) (x4) (x5) (x6) (x7) (x8) (x9) (x11) (y0) σ) else (if (0:Int32) ≤ x11 then (f_study_227 k10 k76 (x1) (x2) (x3) (x4) (x5) (x6) (x7) (x8) (x9) (x11) (y0) (x11) σ) else (f_study_227 k10 k76 (x1) (x2) (x3) (x4) (x5) (x6) (x7) (x8) (x9) (x11) (y0) ((0:Int32)) σ)))
def f_study_182 (k10 : Int32 → Int32 → Int32 → Int32 → Int32 → mS → Option (mS)) (k76 : Int32 → Int32 → Int32 → Int32 → Int32 → Int32 → Int32 → mS → Option (mS)) (x1 : Int32) (x2 : Int32) (x3 : Int32) (x4 : Int32) (x5 : Int32) (x6 : Int32) (x7 : Int32) (x8 : Int32) (x9 : Int32) (x10 : Int32) (y0 : Int32) (σ : mS) : Option (mS) := if (0:Int32) ≤ y0 then ((rd σ 25 y0).bind (fun v1 => f_study_200 k10 k76 (x1) (x2) (x3) (x4) (x5) (x6) (x7) (x8) (x9) (x10) (y0) (v1) σ)) else (f_study_200 k10 k76 (x1) (x2) (x3) (x4) (x5) (x6) (x7) (x8) (x9) (x10) (y0) ((0:Int32)) σ)
def f_study_142 (k10 : Int32 → Int32 → Int32 → Int32 → Int32 → mS → Option (mS)) (k76 : Int32 → Int32 → Int32 → Int32 → Int32 → Int32 → Int32 → mS → Option (mS)) (x1 : Int32) (x2 : Int32) (x3 : Int32) (x4 : Int32) (x5 : Int32) (x6 : Int32) (x7 : Int32) (x8 : Int32) (x9 : Int32) (y0 : Int32) (σ : mS) : Option (mS) := if y0 = (0:Int32) then ((rd σ 17 x8).bind (fun v1 => if v1 = (7:Int32) then ((rd σ 19 x8).bind (fun v2 => f_study_182 k10 k76 (x1) (x2) (x3) (x4) (x5) (x6) (x7) (x8) (x9) (y0) (v2) σ)) else (f_study_182 k10 k76 (x1) (x2) (x3) (x4) (x5) (x6) (x7) (x8) (x9) (y0) (((-1):Int32)) σ))) else ((rd σ 18 x8).bind (fun v3 => f_study_182 k10 k76 (x1) (x2) (x3) (x4) (x5) (x6) (x7) (x8) (x9) (y0) (v3) σ))
def f_study_137 (k10 : Int32 → Int32 → Int32 → Int32 → Int32 → mS → Option (mS)) (k76 : Int32 → Int32 → Int32 → Int32 → Int32 → Int32 → Int32 → mS → Option (mS)) (x1 : Int32) (x2 : Int32) (x3 : Int32) (x4 : Int32) (x5 : Int32) (x6 : Int32) (x7 : Int32) (x8 : Int32) (x9 : Int32) (σ : mS) : Option (mS) := f_study_142 k10 k76 (x1) (x2) (x3) (x4) (x5) (x6) (x7) (x8) (x9) ((1:Int32)) σ
def f_study_76 (k10 : Int32 → Int32 → Int32 → Int32 → Int32 → mS → Option (mS)) : Nat → Int32 → Int32 → Int32 → Int32 → Int32 → Int32 → Int32 → mS → Option (mS)
  | 0, _, _, _, _, _, _, _, _ => none
  | n + 1, x1, x2, x3, x4, x5, x6, x7, σ => (rd σ 16 (((4:Int32) * x1) + x5)).bind (fun v1 => if v1 ≤ x7 then (k10 (x1) (x2) (x3) (x4) ((x5 + (1:Int32))) σ) else ((f_bits (((((16:Int32) * x1) + ((4:Int32) * x5)) + x7)) σ).bind (fun v2 => (rd σ 17 ((((16:Int32) * x1) + ((4:Int32) * x5)) + x7)).bind (fun v3 => if v3 = (5:Int32) then (f_study_137 k10 (f_study_76 k10 n) (x1) (x2) (x3) (x4) (x5) (x6) (x7) (((((16:Int32) * x1) + ((4:Int32) * x5)) + x7)) (v2) σ) else ((rd σ 17 ((((16:Int32) * x1) + ((4:Int32) * x5)) + x7)).bind (fun v4 => if v4 = (6:Int32) then (f_study_137 k10 (f_study_76 k10 n) (x1) (x2) (x3) (x4) (x5) (x6) (x7) (((((16:Int32) * x1) + ((4:Int32) * x5)) + x7)) (v2) σ) else (f_study_142 k10 (f_study_76 k10 n) (x1) (x2) (x3) (x4) (x5) (x6) (x7) (((((16:Int32) * x1) + ((4:Int32) * x5)) + x7)) (v2) ((0:Int32)) σ)))))))
def f_study_70 (k10 : Int32 → Int32 → Int32 → Int32 → Int32 → mS → Option (mS)) (x1 : Int32) (x2 : Int32) (x3 : Int32) (x5 : Int32) (x6 : Int32) (y0 : Int32) (y1 : Int32) (σ : mS) : Option (mS) := f_study_76 k10 4000 (x1) (x2) (x3) ((y0 ||| y1)) (x5) (x6) ((0:Int32)) σ
def f_study_69 (k10 : Int32 → Int32 → Int32 → Int32 → Int32 → mS → Option (mS)) (x1 : Int32) (x2 : Int32) (x3 : Int32) (x5 : Int32) (x6 : Int32) (y0 : Int32) (σ : mS) : Option (mS) := f_study_70 k10 (x1) (x2) (x3) (x5) (x6) (y0) ((0:Int32)) σ
def f_study_39 (k10 : Int32 → Int32 → Int32 → Int32 → Int32 → mS → Option (mS)) (x1 : Int32) (x2 : Int32) (x3 : Int32) (x4 : Int32) (x5 : Int32) (y0 : Int32) (σ : mS) : Option (mS) := if x5 ≤ (0:Int32) then (f_study_69 k10 (x1) (x2) (x3) (x5) (y0) (x4) σ) else ((rd σ 15 (((4:Int32) * x1) + x5)).bind (fun v1 => if v1 ≤ (1:Int32) then (f_study_69 k10 (x1) (x2) (x3) (x5) (y0) (x4) σ) else (f_study_70 k10 (x1) (x2) (x3) (x5) (y0) (x4) ((16384:Int32)) σ)))
def f_study_10  : Nat → Int32 → Int32 → Int32 → Int32 → Int32 → mS → Option (mS)
  | 0, _, _, _, _, _, _ => none
  | n + 1, x1, x2, x3, x4, x5, σ => (rd σ 14 x1).bind (fun v1 => if v1 ≤ x5 then ((wr σ 23 x1 x2).bind (fun s2 => (wr s2 25 x1 x4).bind (fun s3 => (rd s3 22 x1).bind (fun v4 => if v4 = (1:Int32) then (f_study_406 (x4) (x1) s3) else ((rd s3 21 x1).bind (fun v5 => if v5 < (0:Int32) then (f_study_412 (x1) (x3) s3) else (f_study_406 (x4) (x1) s3))))))) else ((rd σ 14 x1).bind (fun v6 => if x5 = (v6 - (1:Int32)) then (f_study_39 (f_study_10 n) (x1) (x2) (x3) (x4) (x5) ((1:Int32)) σ) else (f_study_39 (f_study_10 n) (x1) (x2) (x3) (x4) (x5) ((0:Int32)) σ))))
def f_study (x1 : Int32) (σ : mS) : Option (mS) := f_study_10 4000 (x1) ((0:Int32)) ((0:Int32)) ((0:Int32)) ((0:Int32)) σ
set_option maxRecDepth 20000 in
set_option maxHeartbeats 4000000 in
theorem N_study_412 {p : Program} {l : Launch} {e : Env} {s : State} {m : MethodId} {args : Array Value} {below : List Frame} {meth : Method} {c : Code} {D : mD} {mb : Nat}   {y1 : Int32} {y2 : Int32} {σ : mS} {H : Heap} {locs : List Loc} {ls : Array Slot} {q : mS} (X : mX p s m args meth c cX12_study 14 none D) (hP : mP D mb σ H) (hF : mF mb s.heap H locs)  (hl : lv_has ls 14 [(0, .ref mb)]) (h : f_study_412  y1 y2 σ = some q) : mWw p l e 1 21 s m args below meth c D mb q none H locs (F0 m 412 ls [.int y2, .int y1, .ref (mA mb 24)]) := by
  have hx := X.1
  have hb := X.2.1
  have hown := X.2.2.2.1
  have hts := X.2.2.2.2.1
  have h : ((wr σ 24 y1 y2).bind (fun s1 => some s1)) = some q := h
  obtain ⟨s1, hs1, h⟩ := ob h
  refine m_ast X hP hF hs1 dX12_study_412 (fun H locs hP hF => ?_)
  obtain rfl := sj h
  exact m_wv X hP hF dX12_study_413
set_option maxRecDepth 20000 in
set_option maxHeartbeats 4000000 in
theorem N_study_406 {p : Program} {l : Launch} {e : Env} {s : State} {m : MethodId} {args : Array Value} {below : List Frame} {meth : Method} {c : Code} {D : mD} {mb : Nat}   {x4 : Int32} {y1 : Int32} {σ : mS} {H : Heap} {locs : List Loc} {ls : Array Slot} {q : mS} (X : mX p s m args meth c cX12_study 14 none D) (hP : mP D mb σ H) (hF : mF mb s.heap H locs)  (hl : lv_has ls 14 [(0, .ref mb), (4, .int x4)]) (h : f_study_406  x4 y1 σ = some q) : mWw p l e 1 21 s m args below meth c D mb q none H locs (F0 m 406 ls [.int y1, .ref (mA mb 24)]) := by
  have hx := X.1
  have hb := X.2.1
  have hown := X.2.2.2.1
  have hts := X.2.2.2.2.1
  have h : (f_study_412 (y1) (x4) σ) = some q := h
  refine lv_iload hx hb dX12_study_406 (lv_at hl 1 rfl) ?_
  refine lv_goto (tgt := 412) hx hb dX12_study_408 rfl ?_
  exact N_study_412 X hP hF (lv_sub hl [0] rfl) h
set_option maxRecDepth 20000 in
set_option maxHeartbeats 4000000 in
theorem N_study_351 {p : Program} {l : Launch} {e : Env} {s : State} {m : MethodId} {args : Array Value} {below : List Frame} {meth : Method} {c : Code} {D : mD} {mb : Nat} {k10 : Int32 → Int32 → Int32 → Int32 → Int32 → mS → Option (mS)} {k76 : Int32 → Int32 → Int32 → Int32 → Int32 → Int32 → Int32 → mS → Option (mS)}  {x1 : Int32} {x2 : Int32} {x3 : Int32} {x5 : Int32} {x6 : Int32} {x7 : Int32} {y0 : Int32} {y1 : Int32} {y2 : Int32} {σ : mS} {H : Heap} {locs : List Loc} {ls : Array Slot} {q : mS} (X : mX p s m args meth c cX12_study 14 none D) (hP : mP D mb σ H) (hF : mF mb s.heap H locs) (hk10 : ∀ {x1 : Int32} {x2 : Int32} {x3 : Int32} {x4 : Int32} {x5 : Int32} {σ : mS} {H : Heap} {locs : List Loc} {ls : Array Slot}, mP D mb σ H → mF mb s.heap H locs → lv_has ls 14 [(0, .ref mb), (1, .int x1), (2, .int x2), (3, .int x3), (4, .int x4), (5, .int x5)] → k10 x1 x2 x3 x4 x5 σ = some q → mWw p l e 1 21 s m args below meth c D mb q none H locs (F0 m 10 ls [])) (hk76 : ∀ {x1 : Int32} {x2 : Int32} {x3 : Int32} {x4 : Int32} {x5 : Int32} {x6 : Int32} {x7 : Int32} {σ : mS} {H : Heap} {locs : List Loc} {ls : Array Slot}, mP D mb σ H → mF mb s.heap H locs → lv_has ls 14 [(0, .ref mb), (1, .int x1), (2, .int x2), (3, .int x3), (4, .int x4), (5, .int x5), (6, .int x6), (7, .int x7)] → k76 x1 x2 x3 x4 x5 x6 x7 σ = some q → mWw p l e 1 21 s m args below meth c D mb q none H locs (F0 m 76 ls [])) (hl : lv_has ls 14 [(0, .ref mb), (1, .int x1), (2, .int x2), (3, .int x3), (5, .int x5), (6, .int x6), (7, .int x7)]) (h : f_study_351 k10 k76 x1 x2 x3 x5 x6 x7 y0 y1 y2 σ = some q) : mWw p l e 1 21 s m args below meth c D mb q none H locs (F0 m 351 ls [.int y2, .int y1, .int y0]) := by
  have hx := X.1
  have hb := X.2.1
  have hown := X.2.2.2.1
  have hts := X.2.2.2.2.1
  have h : (k76 (x1) (x2) (x3) ((y0 ||| (y1 ||| y2))) (x5) (x6) ((x7 + (1:Int32))) σ) = some q := h
  refine lv_ior hx hb dX12_study_351 ?_
  refine lv_ior hx hb dX12_study_352 ?_
  refine lv_istore hx hb dX12_study_353 hl (Nat.le_of_ble_eq_true rfl) rfl (fun ls (hl : lv_has ls 14 [(4, .int (y0 ||| (y1 ||| y2))), (0, .ref mb), (1, .int x1), (2, .int x2), (3, .int x3), (5, .int x5), (6, .int x6), (7, .int x7)]) => ?_)
  refine lv_iinc (v := (x7 + (1:Int32))) hx hb dX12_study_355 hl (k := 7) rfl rfl (Nat.le_of_ble_eq_true rfl) rfl (fun ls (hl : lv_has ls 14 [(7, .int (x7 + (1:Int32))), (4, .int (y0 ||| (y1 ||| y2))), (0, .ref mb), (1, .int x1), (2, .int x2), (3, .int x3), (5, .int x5), (6, .int x6)]) => ?_)
  refine lv_goto (tgt := 76) hx hb dX12_study_358 rfl ?_
  exact hk76 hP hF (lv_sub hl [2, 3, 4, 5, 1, 6, 7, 0] rfl) h
set_option maxRecDepth 20000 in
set_option maxHeartbeats 4000000 in
theorem N_study_346 {p : Program} {l : Launch} {e : Env} {s : State} {m : MethodId} {args : Array Value} {below : List Frame} {meth : Method} {c : Code} {D : mD} {mb : Nat} {k10 : Int32 → Int32 → Int32 → Int32 → Int32 → mS → Option (mS)} {k76 : Int32 → Int32 → Int32 → Int32 → Int32 → Int32 → Int32 → mS → Option (mS)}  {x1 : Int32} {x2 : Int32} {x3 : Int32} {x5 : Int32} {x6 : Int32} {x7 : Int32} {y0 : Int32} {y1 : Int32} {y2 : Int32} {y3 : Int32} {σ : mS} {H : Heap} {locs : List Loc} {ls : Array Slot} {q : mS} (X : mX p s m args meth c cX12_study 14 none D) (hP : mP D mb σ H) (hF : mF mb s.heap H locs) (hk10 : ∀ {x1 : Int32} {x2 : Int32} {x3 : Int32} {x4 : Int32} {x5 : Int32} {σ : mS} {H : Heap} {locs : List Loc} {ls : Array Slot}, mP D mb σ H → mF mb s.heap H locs → lv_has ls 14 [(0, .ref mb), (1, .int x1), (2, .int x2), (3, .int x3), (4, .int x4), (5, .int x5)] → k10 x1 x2 x3 x4 x5 σ = some q → mWw p l e 1 21 s m args below meth c D mb q none H locs (F0 m 10 ls [])) (hk76 : ∀ {x1 : Int32} {x2 : Int32} {x3 : Int32} {x4 : Int32} {x5 : Int32} {x6 : Int32} {x7 : Int32} {σ : mS} {H : Heap} {locs : List Loc} {ls : Array Slot}, mP D mb σ H → mF mb s.heap H locs → lv_has ls 14 [(0, .ref mb), (1, .int x1), (2, .int x2), (3, .int x3), (4, .int x4), (5, .int x5), (6, .int x6), (7, .int x7)] → k76 x1 x2 x3 x4 x5 x6 x7 σ = some q → mWw p l e 1 21 s m args below meth c D mb q none H locs (F0 m 76 ls [])) (hl : lv_has ls 14 [(0, .ref mb), (1, .int x1), (2, .int x2), (3, .int x3), (5, .int x5), (6, .int x6), (7, .int x7)]) (h : f_study_346 k10 k76 x1 x2 x3 x5 x6 x7 y0 y1 y2 y3 σ = some q) : mWw p l e 1 21 s m args below meth c D mb q none H locs (F0 m 346 ls [.int y3, .int y2, .int y1, .int y0]) := by
  have hx := X.1
  have hb := X.2.1
  have hown := X.2.2.2.1
  have hts := X.2.2.2.2.1
  have h : (f_study_351 k10 k76 (x1) (x2) (x3) (x5) (x6) (x7) (y0) (y1) ((y2 ||| y3)) σ) = some q := h
  refine lv_ior hx hb dX12_study_346 ?_
  refine lv_goto (tgt := 351) hx hb dX12_study_347 rfl ?_
  exact N_study_351 X hP hF hk10 hk76 (lv_sub hl [0, 1, 2, 3, 4, 5, 6] rfl) h
set_option maxRecDepth 20000 in
set_option maxHeartbeats 4000000 in
theorem N_study_304 {p : Program} {l : Launch} {e : Env} {s : State} {m : MethodId} {args : Array Value} {below : List Frame} {meth : Method} {c : Code} {D : mD} {mb : Nat} {k10 : Int32 → Int32 → Int32 → Int32 → Int32 → mS → Option (mS)} {k76 : Int32 → Int32 → Int32 → Int32 → Int32 → Int32 → Int32 → mS → Option (mS)}  {x1 : Int32} {x2 : Int32} {x4 : Int32} {x5 : Int32} {x6 : Int32} {x7 : Int32} {x8 : Int32} {x9 : Int32} {x12 : Int32} {y0 : Int32} {y1 : Int32} {σ : mS} {H : Heap} {locs : List Loc} {ls : Array Slot} {q : mS} (X : mX p s m args meth c cX12_study 14 none D) (hP : mP D mb σ H) (hF : mF mb s.heap H locs) (hk10 : ∀ {x1 : Int32} {x2 : Int32} {x3 : Int32} {x4 : Int32} {x5 : Int32} {σ : mS} {H : Heap} {locs : List Loc} {ls : Array Slot}, mP D mb σ H → mF mb s.heap H locs → lv_has ls 14 [(0, .ref mb), (1, .int x1), (2, .int x2), (3, .int x3), (4, .int x4), (5, .int x5)] → k10 x1 x2 x3 x4 x5 σ = some q → mWw p l e 1 21 s m args below meth c D mb q none H locs (F0 m 10 ls [])) (hk76 : ∀ {x1 : Int32} {x2 : Int32} {x3 : Int32} {x4 : Int32} {x5 : Int32} {x6 : Int32} {x7 : Int32} {σ : mS} {H : Heap} {locs : List Loc} {ls : Array Slot}, mP D mb σ H → mF mb s.heap H locs → lv_has ls 14 [(0, .ref mb), (1, .int x1), (2, .int x2), (3, .int x3), (4, .int x4), (5, .int x5), (6, .int x6), (7, .int x7)] → k76 x1 x2 x3 x4 x5 x6 x7 σ = some q → mWw p l e 1 21 s m args below meth c D mb q none H locs (F0 m 76 ls [])) (hl : lv_has ls 14 [(0, .ref mb), (1, .int x1), (2, .int x2), (4, .int x4), (5, .int x5), (6, .int x6), (7, .int x7), (8, .int x8), (9, .int x9), (12, .int x12)]) (h : f_study_304 k10 k76 x1 x2 x4 x5 x6 x7 x8 x9 x12 y0 y1 σ = some q) : mWw p l e 1 21 s m args below meth c D mb q none H locs (F0 m 304 ls [.int y1, .int y0]) := by
  have hx := X.1
  have hb := X.2.1
  have hown := X.2.2.2.1
  have hts := X.2.2.2.2.1
  have h : ((rd σ 17 x8).bind (fun v1 => if v1 = (7:Int32) then ((rd σ 18 x8).bind (fun v2 => if v2 ≤ (1:Int32) then (f_study_346 k10 k76 (x1) (x2) ((y0 ||| y1)) (x5) (x6) (x7) (x4) ((x9 ||| x12)) ((32768:Int32)) ((0:Int32)) σ) else (f_study_346 k10 k76 (x1) (x2) ((y0 ||| y1)) (x5) (x6) (x7) (x4) ((x9 ||| x12)) ((32768:Int32)) ((16384:Int32)) σ))) else (f_study_351 k10 k76 (x1) (x2) ((y0 ||| y1)) (x5) (x6) (x7) (x4) ((x9 ||| x12)) ((0:Int32)) σ))) = some q := h
  refine lv_ior hx hb dX12_study_304 ?_
  refine lv_istore_n hx hb dX12_study_305 rfl hl (Nat.le_of_ble_eq_true rfl) rfl (fun ls (hl : lv_has ls 14 [(3, .int (y0 ||| y1)), (0, .ref mb), (1, .int x1), (2, .int x2), (4, .int x4), (5, .int x5), (6, .int x6), (7, .int x7), (8, .int x8), (9, .int x9), (12, .int x12)]) => ?_)
  refine lv_iload hx hb dX12_study_306 (lv_at hl 4 rfl) ?_
  refine lv_iload hx hb dX12_study_308 (lv_at hl 9 rfl) ?_
  refine lv_iload hx hb dX12_study_310 (lv_at hl 10 rfl) ?_
  refine lv_ior hx hb dX12_study_312 ?_
  refine lv_aload_n hx hb dX12_study_313 rfl (lv_at hl 1 rfl) ?_
  refine mg_tk X hP dX12_study_314 ?_
  refine lv_iload hx hb dX12_study_317 (lv_at hl 8 rfl) ?_
  obtain ⟨v1, hv1, h⟩ := ob h
  refine m_ald X hP hv1 dX12_study_319 ?_
  refine lv_bipush (v := (7:Int32)) hx hb dX12_study_320 (by decide) ?_
  refine lv_icmp_ne (tgt := 350) hx hb dX12_study_322 rfl (fun hc => ?_) (fun hc => ?_)
  · have h := ine hc h
    refine lv_iconst (v := (0:Int32)) hx hb dX12_study_350 (by decide) ?_
    exact N_study_351 X hP hF hk10 hk76 (lv_sub hl [1, 2, 3, 0, 5, 6, 7] rfl) h
  · have h := ip hc h
    refine lv_ldcw hx hb hown (hts _ w_2010) dX12_study_325 ?_
    refine lv_aload_n hx hb dX12_study_328 rfl (lv_at hl 1 rfl) ?_
    refine mg_ta X hP dX12_study_329 ?_
    refine lv_iload hx hb dX12_study_332 (lv_at hl 8 rfl) ?_
    obtain ⟨v2, hv2, h⟩ := ob h
    refine m_ald X hP hv2 dX12_study_334 ?_
    refine lv_iconst (v := (1:Int32)) hx hb dX12_study_335 (by decide) ?_
    refine lv_icmp_le (tgt := 345) hx hb dX12_study_336 rfl (fun hc => ?_) (fun hc => ?_)
    · have h := ip hc h
      refine lv_iconst (v := (0:Int32)) hx hb dX12_study_345 (by decide) ?_
      exact N_study_346 X hP hF hk10 hk76 (lv_sub hl [1, 2, 3, 0, 5, 6, 7] rfl) h
    · have h := ine hc h
      refine lv_sipush (v := (16384:Int32)) hx hb dX12_study_339 (by decide) ?_
      refine lv_goto (tgt := 346) hx hb dX12_study_342 rfl ?_
      exact N_study_346 X hP hF hk10 hk76 (lv_sub hl [1, 2, 3, 0, 5, 6, 7] rfl) h
set_option maxRecDepth 20000 in
set_option maxHeartbeats 4000000 in
theorem N_study_284 {p : Program} {l : Launch} {e : Env} {s : State} {m : MethodId} {args : Array Value} {below : List Frame} {meth : Method} {c : Code} {D : mD} {mb : Nat} {k10 : Int32 → Int32 → Int32 → Int32 → Int32 → mS → Option (mS)} {k76 : Int32 → Int32 → Int32 → Int32 → Int32 → Int32 → Int32 → mS → Option (mS)}  {x1 : Int32} {x2 : Int32} {x4 : Int32} {x5 : Int32} {x6 : Int32} {x7 : Int32} {x8 : Int32} {x9 : Int32} {x11 : Int32} {x12 : Int32} {x13 : Int32} {y0 : Int32} {y1 : Int32} {σ : mS} {H : Heap} {locs : List Loc} {ls : Array Slot} {q : mS} (X : mX p s m args meth c cX12_study 14 none D) (hP : mP D mb σ H) (hF : mF mb s.heap H locs) (hk10 : ∀ {x1 : Int32} {x2 : Int32} {x3 : Int32} {x4 : Int32} {x5 : Int32} {σ : mS} {H : Heap} {locs : List Loc} {ls : Array Slot}, mP D mb σ H → mF mb s.heap H locs → lv_has ls 14 [(0, .ref mb), (1, .int x1), (2, .int x2), (3, .int x3), (4, .int x4), (5, .int x5)] → k10 x1 x2 x3 x4 x5 σ = some q → mWw p l e 1 21 s m args below meth c D mb q none H locs (F0 m 10 ls [])) (hk76 : ∀ {x1 : Int32} {x2 : Int32} {x3 : Int32} {x4 : Int32} {x5 : Int32} {x6 : Int32} {x7 : Int32} {σ : mS} {H : Heap} {locs : List Loc} {ls : Array Slot}, mP D mb σ H → mF mb s.heap H locs → lv_has ls 14 [(0, .ref mb), (1, .int x1), (2, .int x2), (3, .int x3), (4, .int x4), (5, .int x5), (6, .int x6), (7, .int x7)] → k76 x1 x2 x3 x4 x5 x6 x7 σ = some q → mWw p l e 1 21 s m args below meth c D mb q none H locs (F0 m 76 ls [])) (hl : lv_has ls 14 [(0, .ref mb), (1, .int x1), (2, .int x2), (4, .int x4), (5, .int x5), (6, .int x6), (7, .int x7), (8, .int x8), (9, .int x9), (11, .int x11), (12, .int x12), (13, .int x13)]) (h : f_study_284 k10 k76 x1 x2 x4 x5 x6 x7 x8 x9 x11 x12 x13 y0 y1 σ = some q) : mWw p l e 1 21 s m args below meth c D mb q none H locs (F0 m 284 ls [.int y1, .int y0]) := by
  have hx := X.1
  have hb := X.2.1
  have hown := X.2.2.2.1
  have hts := X.2.2.2.2.1
  have h : (if x13 = (0:Int32) then (f_study_304 k10 k76 (x1) (x2) (x4) (x5) (x6) (x7) (x8) (x9) (x12) ((y0 ||| y1)) (x12) σ) else ((rd σ 24 x11).bind (fun v1 => f_study_304 k10 k76 (x1) (x2) (x4) (x5) (x6) (x7) (x8) (x9) (x12) ((y0 ||| y1)) (v1) σ))) = some q := h
  refine lv_ior hx hb dX12_study_284 ?_
  refine lv_istore_n hx hb dX12_study_285 rfl hl (Nat.le_of_ble_eq_true rfl) rfl (fun ls (hl : lv_has ls 14 [(3, .int (y0 ||| y1)), (0, .ref mb), (1, .int x1), (2, .int x2), (4, .int x4), (5, .int x5), (6, .int x6), (7, .int x7), (8, .int x8), (9, .int x9), (11, .int x11), (12, .int x12), (13, .int x13)]) => ?_)
  refine lv_iload_n hx hb dX12_study_286 rfl (lv_at hl 0 rfl) ?_
  refine lv_iload hx hb dX12_study_287 (lv_at hl 12 rfl) ?_
  refine lv_if_eq (tgt := 302) hx hb dX12_study_289 rfl (fun hc => ?_) (fun hc => ?_)
  · have h := ip hc h
    refine lv_iload hx hb dX12_study_302 (lv_at hl 11 rfl) ?_
    exact N_study_304 X hP hF hk10 hk76 (lv_sub hl [1, 2, 3, 4, 5, 6, 7, 8, 9, 11] rfl) h
  · have h := ine hc h
    refine lv_aload_n hx hb dX12_study_292 rfl (lv_at hl 1 rfl) ?_
    refine mg_wide X hP dX12_study_293 ?_
    refine lv_iload hx hb dX12_study_296 (lv_at hl 10 rfl) ?_
    obtain ⟨v1, hv1, h⟩ := ob h
    refine m_ald X hP hv1 dX12_study_298 ?_
    refine lv_goto (tgt := 304) hx hb dX12_study_299 rfl ?_
    exact N_study_304 X hP hF hk10 hk76 (lv_sub hl [1, 2, 3, 4, 5, 6, 7, 8, 9, 11] rfl) h
set_option maxRecDepth 20000 in
set_option maxHeartbeats 4000000 in
theorem N_study_270 {p : Program} {l : Launch} {e : Env} {s : State} {m : MethodId} {args : Array Value} {below : List Frame} {meth : Method} {c : Code} {D : mD} {mb : Nat} {k10 : Int32 → Int32 → Int32 → Int32 → Int32 → mS → Option (mS)} {k76 : Int32 → Int32 → Int32 → Int32 → Int32 → Int32 → Int32 → mS → Option (mS)}  {x1 : Int32} {x3 : Int32} {x4 : Int32} {x5 : Int32} {x6 : Int32} {x7 : Int32} {x8 : Int32} {x9 : Int32} {x11 : Int32} {x12 : Int32} {x13 : Int32} {y0 : Int32} {y1 : Int32} {σ : mS} {H : Heap} {locs : List Loc} {ls : Array Slot} {q : mS} (X : mX p s m args meth c cX12_study 14 none D) (hP : mP D mb σ H) (hF : mF mb s.heap H locs) (hk10 : ∀ {x1 : Int32} {x2 : Int32} {x3 : Int32} {x4 : Int32} {x5 : Int32} {σ : mS} {H : Heap} {locs : List Loc} {ls : Array Slot}, mP D mb σ H → mF mb s.heap H locs → lv_has ls 14 [(0, .ref mb), (1, .int x1), (2, .int x2), (3, .int x3), (4, .int x4), (5, .int x5)] → k10 x1 x2 x3 x4 x5 σ = some q → mWw p l e 1 21 s m args below meth c D mb q none H locs (F0 m 10 ls [])) (hk76 : ∀ {x1 : Int32} {x2 : Int32} {x3 : Int32} {x4 : Int32} {x5 : Int32} {x6 : Int32} {x7 : Int32} {σ : mS} {H : Heap} {locs : List Loc} {ls : Array Slot}, mP D mb σ H → mF mb s.heap H locs → lv_has ls 14 [(0, .ref mb), (1, .int x1), (2, .int x2), (3, .int x3), (4, .int x4), (5, .int x5), (6, .int x6), (7, .int x7)] → k76 x1 x2 x3 x4 x5 x6 x7 σ = some q → mWw p l e 1 21 s m args below meth c D mb q none H locs (F0 m 76 ls [])) (hl : lv_has ls 14 [(0, .ref mb), (1, .int x1), (3, .int x3), (4, .int x4), (5, .int x5), (6, .int x6), (7, .int x7), (8, .int x8), (9, .int x9), (11, .int x11), (12, .int x12), (13, .int x13)]) (h : f_study_270 k10 k76 x1 x3 x4 x5 x6 x7 x8 x9 x11 x12 x13 y0 y1 σ = some q) : mWw p l e 1 21 s m args below meth c D mb q none H locs (F0 m 270 ls [.int y1, .int y0]) := by
  have hx := X.1
  have hb := X.2.1
  have hown := X.2.2.2.1
  have hts := X.2.2.2.2.1
  have h : (if x6 = (0:Int32) then (f_study_284 k10 k76 (x1) ((y0 ||| y1)) (x4) (x5) (x6) (x7) (x8) (x9) (x11) (x12) (x13) (x3) (x9) σ) else (f_study_284 k10 k76 (x1) ((y0 ||| y1)) (x4) (x5) (x6) (x7) (x8) (x9) (x11) (x12) (x13) (x3) ((0:Int32)) σ)) = some q := h
  refine lv_ior hx hb dX12_study_270 ?_
  refine lv_istore_n hx hb dX12_study_271 rfl hl (Nat.le_of_ble_eq_true rfl) rfl (fun ls (hl : lv_has ls 14 [(2, .int (y0 ||| y1)), (0, .ref mb), (1, .int x1), (3, .int x3), (4, .int x4), (5, .int x5), (6, .int x6), (7, .int x7), (8, .int x8), (9, .int x9), (11, .int x11), (12, .int x12), (13, .int x13)]) => ?_)
  refine lv_iload_n hx hb dX12_study_272 rfl (lv_at hl 3 rfl) ?_
  refine lv_iload hx hb dX12_study_273 (lv_at hl 6 rfl) ?_
  refine lv_if_eq (tgt := 282) hx hb dX12_study_275 rfl (fun hc => ?_) (fun hc => ?_)
  · have h := ip hc h
    refine lv_iload hx hb dX12_study_282 (lv_at hl 9 rfl) ?_
    exact N_study_284 X hP hF hk10 hk76 (lv_sub hl [1, 2, 0, 4, 5, 6, 7, 8, 9, 10, 11, 12] rfl) h
  · have h := ine hc h
    refine lv_iconst (v := (0:Int32)) hx hb dX12_study_278 (by decide) ?_
    refine lv_goto (tgt := 284) hx hb dX12_study_279 rfl ?_
    exact N_study_284 X hP hF hk10 hk76 (lv_sub hl [1, 2, 0, 4, 5, 6, 7, 8, 9, 10, 11, 12] rfl) h
set_option maxRecDepth 20000 in
set_option maxHeartbeats 4000000 in
theorem N_study_251 {p : Program} {l : Launch} {e : Env} {s : State} {m : MethodId} {args : Array Value} {below : List Frame} {meth : Method} {c : Code} {D : mD} {mb : Nat} {k10 : Int32 → Int32 → Int32 → Int32 → Int32 → mS → Option (mS)} {k76 : Int32 → Int32 → Int32 → Int32 → Int32 → Int32 → Int32 → mS → Option (mS)}  {x1 : Int32} {x3 : Int32} {x4 : Int32} {x5 : Int32} {x6 : Int32} {x7 : Int32} {x8 : Int32} {x9 : Int32} {x11 : Int32} {x12 : Int32} {x13 : Int32} {y0 : Int32} {y1 : Int32} {σ : mS} {H : Heap} {locs : List Loc} {ls : Array Slot} {q : mS} (X : mX p s m args meth c cX12_study 14 none D) (hP : mP D mb σ H) (hF : mF mb s.heap H locs) (hk10 : ∀ {x1 : Int32} {x2 : Int32} {x3 : Int32} {x4 : Int32} {x5 : Int32} {σ : mS} {H : Heap} {locs : List Loc} {ls : Array Slot}, mP D mb σ H → mF mb s.heap H locs → lv_has ls 14 [(0, .ref mb), (1, .int x1), (2, .int x2), (3, .int x3), (4, .int x4), (5, .int x5)] → k10 x1 x2 x3 x4 x5 σ = some q → mWw p l e 1 21 s m args below meth c D mb q none H locs (F0 m 10 ls [])) (hk76 : ∀ {x1 : Int32} {x2 : Int32} {x3 : Int32} {x4 : Int32} {x5 : Int32} {x6 : Int32} {x7 : Int32} {σ : mS} {H : Heap} {locs : List Loc} {ls : Array Slot}, mP D mb σ H → mF mb s.heap H locs → lv_has ls 14 [(0, .ref mb), (1, .int x1), (2, .int x2), (3, .int x3), (4, .int x4), (5, .int x5), (6, .int x6), (7, .int x7)] → k76 x1 x2 x3 x4 x5 x6 x7 σ = some q → mWw p l e 1 21 s m args below meth c D mb q none H locs (F0 m 76 ls [])) (hl : lv_has ls 14 [(0, .ref mb), (1, .int x1), (3, .int x3), (4, .int x4), (5, .int x5), (6, .int x6), (7, .int x7), (8, .int x8), (9, .int x9), (11, .int x11), (12, .int x12), (13, .int x13)]) (h : f_study_251 k10 k76 x1 x3 x4 x5 x6 x7 x8 x9 x11 x12 x13 y0 y1 σ = some q) : mWw p l e 1 21 s m args below meth c D mb q none H locs (F0 m 251 ls [.int y1, .int y0]) := by
  have hx := X.1
  have hb := X.2.1
  have hown := X.2.2.2.1
  have hts := X.2.2.2.2.1
  have h : (if x13 = (0:Int32) then (f_study_270 k10 k76 (x1) (x3) (x4) (x5) (x6) (x7) (x8) (x9) (x11) (x12) (x13) ((y0 ||| y1)) ((0:Int32)) σ) else ((rd σ 23 x11).bind (fun v1 => f_study_270 k10 k76 (x1) (x3) (x4) (x5) (x6) (x7) (x8) (x9) (x11) (x12) (x13) ((y0 ||| y1)) (v1) σ))) = some q := h
  refine lv_ior hx hb dX12_study_251 ?_
  refine lv_istore_n hx hb dX12_study_252 rfl hl (Nat.le_of_ble_eq_true rfl) rfl (fun ls (hl : lv_has ls 14 [(2, .int (y0 ||| y1)), (0, .ref mb), (1, .int x1), (3, .int x3), (4, .int x4), (5, .int x5), (6, .int x6), (7, .int x7), (8, .int x8), (9, .int x9), (11, .int x11), (12, .int x12), (13, .int x13)]) => ?_)
  refine lv_iload_n hx hb dX12_study_253 rfl (lv_at hl 0 rfl) ?_
  refine lv_iload hx hb dX12_study_254 (lv_at hl 12 rfl) ?_
  refine lv_if_eq (tgt := 269) hx hb dX12_study_256 rfl (fun hc => ?_) (fun hc => ?_)
  · have h := ip hc h
    refine lv_iconst (v := (0:Int32)) hx hb dX12_study_269 (by decide) ?_
    exact N_study_270 X hP hF hk10 hk76 (lv_sub hl [1, 2, 3, 4, 5, 6, 7, 8, 9, 10, 11, 12] rfl) h
  · have h := ine hc h
    refine lv_aload_n hx hb dX12_study_259 rfl (lv_at hl 1 rfl) ?_
    refine mg_inLast X hP dX12_study_260 ?_
    refine lv_iload hx hb dX12_study_263 (lv_at hl 10 rfl) ?_
    obtain ⟨v1, hv1, h⟩ := ob h
    refine m_ald X hP hv1 dX12_study_265 ?_
    refine lv_goto (tgt := 270) hx hb dX12_study_266 rfl ?_
    exact N_study_270 X hP hF hk10 hk76 (lv_sub hl [1, 2, 3, 4, 5, 6, 7, 8, 9, 10, 11, 12] rfl) h
set_option maxRecDepth 20000 in
set_option maxHeartbeats 4000000 in
theorem N_study_237 {p : Program} {l : Launch} {e : Env} {s : State} {m : MethodId} {args : Array Value} {below : List Frame} {meth : Method} {c : Code} {D : mD} {mb : Nat} {k10 : Int32 → Int32 → Int32 → Int32 → Int32 → mS → Option (mS)} {k76 : Int32 → Int32 → Int32 → Int32 → Int32 → Int32 → Int32 → mS → Option (mS)}  {x1 : Int32} {x2 : Int32} {x3 : Int32} {x4 : Int32} {x5 : Int32} {x6 : Int32} {x7 : Int32} {x8 : Int32} {x9 : Int32} {x11 : Int32} {x12 : Int32} {y0 : Int32} {σ : mS} {H : Heap} {locs : List Loc} {ls : Array Slot} {q : mS} (X : mX p s m args meth c cX12_study 14 none D) (hP : mP D mb σ H) (hF : mF mb s.heap H locs) (hk10 : ∀ {x1 : Int32} {x2 : Int32} {x3 : Int32} {x4 : Int32} {x5 : Int32} {σ : mS} {H : Heap} {locs : List Loc} {ls : Array Slot}, mP D mb σ H → mF mb s.heap H locs → lv_has ls 14 [(0, .ref mb), (1, .int x1), (2, .int x2), (3, .int x3), (4, .int x4), (5, .int x5)] → k10 x1 x2 x3 x4 x5 σ = some q → mWw p l e 1 21 s m args below meth c D mb q none H locs (F0 m 10 ls [])) (hk76 : ∀ {x1 : Int32} {x2 : Int32} {x3 : Int32} {x4 : Int32} {x5 : Int32} {x6 : Int32} {x7 : Int32} {σ : mS} {H : Heap} {locs : List Loc} {ls : Array Slot}, mP D mb σ H → mF mb s.heap H locs → lv_has ls 14 [(0, .ref mb), (1, .int x1), (2, .int x2), (3, .int x3), (4, .int x4), (5, .int x5), (6, .int x6), (7, .int x7)] → k76 x1 x2 x3 x4 x5 x6 x7 σ = some q → mWw p l e 1 21 s m args below meth c D mb q none H locs (F0 m 76 ls [])) (hl : lv_has ls 14 [(0, .ref mb), (1, .int x1), (2, .int x2), (3, .int x3), (4, .int x4), (5, .int x5), (6, .int x6), (7, .int x7), (8, .int x8), (9, .int x9), (11, .int x11), (12, .int x12)]) (h : f_study_237 k10 k76 x1 x2 x3 x4 x5 x6 x7 x8 x9 x11 x12 y0 σ = some q) : mWw p l e 1 21 s m args below meth c D mb q none H locs (F0 m 237 ls [.int y0]) := by
  have hx := X.1
  have hb := X.2.1
  have hown := X.2.2.2.1
  have hts := X.2.2.2.2.1
  have h : (if x6 = (0:Int32) then (f_study_251 k10 k76 (x1) (x3) (x4) (x5) (x6) (x7) (x8) (x9) (x11) (x12) (y0) (x2) ((0:Int32)) σ) else (f_study_251 k10 k76 (x1) (x3) (x4) (x5) (x6) (x7) (x8) (x9) (x11) (x12) (y0) (x2) (x9) σ)) = some q := h
  refine lv_istore hx hb dX12_study_237 hl (Nat.le_of_ble_eq_true rfl) rfl (fun ls (hl : lv_has ls 14 [(13, .int y0), (0, .ref mb), (1, .int x1), (2, .int x2), (3, .int x3), (4, .int x4), (5, .int x5), (6, .int x6), (7, .int x7), (8, .int x8), (9, .int x9), (11, .int x11), (12, .int x12)]) => ?_)
  refine lv_iload_n hx hb dX12_study_239 rfl (lv_at hl 3 rfl) ?_
  refine lv_iload hx hb dX12_study_240 (lv_at hl 7 rfl) ?_
  refine lv_if_eq (tgt := 250) hx hb dX12_study_242 rfl (fun hc => ?_) (fun hc => ?_)
  · have h := ip hc h
    refine lv_iconst (v := (0:Int32)) hx hb dX12_study_250 (by decide) ?_
    exact N_study_251 X hP hF hk10 hk76 (lv_sub hl [1, 2, 4, 5, 6, 7, 8, 9, 10, 11, 12, 0] rfl) h
  · have h := ine hc h
    refine lv_iload hx hb dX12_study_245 (lv_at hl 10 rfl) ?_
    refine lv_goto (tgt := 251) hx hb dX12_study_247 rfl ?_
    exact N_study_251 X hP hF hk10 hk76 (lv_sub hl [1, 2, 4, 5, 6, 7, 8, 9, 10, 11, 12, 0] rfl) h
set_option maxRecDepth 20000 in
set_option maxHeartbeats 4000000 in
theorem N_study_236 {p : Program} {l : Launch} {e : Env} {s : State} {m : MethodId} {args : Array Value} {below : List Frame} {meth : Method} {c : Code} {D : mD} {mb : Nat} {k10 : Int32 → Int32 → Int32 → Int32 → Int32 → mS → Option (mS)} {k76 : Int32 → Int32 → Int32 → Int32 → Int32 → Int32 → Int32 → mS → Option (mS)}  {x1 : Int32} {x2 : Int32} {x3 : Int32} {x4 : Int32} {x5 : Int32} {x6 : Int32} {x7 : Int32} {x8 : Int32} {x9 : Int32} {x11 : Int32} {x12 : Int32} {σ : mS} {H : Heap} {locs : List Loc} {ls : Array Slot} {q : mS} (X : mX p s m args meth c cX12_study 14 none D) (hP : mP D mb σ H) (hF : mF mb s.heap H locs) (hk10 : ∀ {x1 : Int32} {x2 : Int32} {x3 : Int32} {x4 : Int32} {x5 : Int32} {σ : mS} {H : Heap} {locs : List Loc} {ls : Array Slot}, mP D mb σ H → mF mb s.heap H locs → lv_has ls 14 [(0, .ref mb), (1, .int x1), (2, .int x2), (3, .int x3), (4, .int x4), (5, .int x5)] → k10 x1 x2 x3 x4 x5 σ = some q → mWw p l e 1 21 s m args below meth c D mb q none H locs (F0 m 10 ls [])) (hk76 : ∀ {x1 : Int32} {x2 : Int32} {x3 : Int32} {x4 : Int32} {x5 : Int32} {x6 : Int32} {x7 : Int32} {σ : mS} {H : Heap} {locs : List Loc} {ls : Array Slot}, mP D mb σ H → mF mb s.heap H locs → lv_has ls 14 [(0, .ref mb), (1, .int x1), (2, .int x2), (3, .int x3), (4, .int x4), (5, .int x5), (6, .int x6), (7, .int x7)] → k76 x1 x2 x3 x4 x5 x6 x7 σ = some q → mWw p l e 1 21 s m args below meth c D mb q none H locs (F0 m 76 ls [])) (hl : lv_has ls 14 [(0, .ref mb), (1, .int x1), (2, .int x2), (3, .int x3), (4, .int x4), (5, .int x5), (6, .int x6), (7, .int x7), (8, .int x8), (9, .int x9), (11, .int x11), (12, .int x12)]) (h : f_study_236 k10 k76 x1 x2 x3 x4 x5 x6 x7 x8 x9 x11 x12 σ = some q) : mWw p l e 1 21 s m args below meth c D mb q none H locs (F0 m 236 ls []) := by
  have hx := X.1
  have hb := X.2.1
  have hown := X.2.2.2.1
  have hts := X.2.2.2.2.1
  have h : (f_study_237 k10 k76 (x1) (x2) (x3) (x4) (x5) (x6) (x7) (x8) (x9) (x11) (x12) ((0:Int32)) σ) = some q := h
  refine lv_iconst (v := (0:Int32)) hx hb dX12_study_236 (by decide) ?_
  exact N_study_237 X hP hF hk10 hk76 (lv_sub hl [0, 1, 2, 3, 4, 5, 6, 7, 8, 9, 10, 11] rfl) h
set_option maxRecDepth 20000 in
set_option maxHeartbeats 4000000 in
theorem N_study_227 {p : Program} {l : Launch} {e : Env} {s : State} {m : MethodId} {args : Array Value} {below : List Frame} {meth : Method} {c : Code} {D : mD} {mb : Nat} {k10 : Int32 → Int32 → Int32 → Int32 → Int32 → mS → Option (mS)} {k76 : Int32 → Int32 → Int32 → Int32 → Int32 → Int32 → Int32 → mS → Option (mS)}  {x1 : Int32} {x2 : Int32} {x3 : Int32} {x4 : Int32} {x5 : Int32} {x6 : Int32} {x7 : Int32} {x8 : Int32} {x9 : Int32} {x11 : Int32} {x12 : Int32} {y1 : Int32} {σ : mS} {H : Heap} {locs : List Loc} {ls : Array Slot} {q : mS} (X : mX p s m args meth c cX12_study 14 none D) (hP : mP D mb σ H) (hF : mF mb s.heap H locs) (hk10 : ∀ {x1 : Int32} {x2 : Int32} {x3 : Int32} {x4 : Int32} {x5 : Int32} {σ : mS} {H : Heap} {locs : List Loc} {ls : Array Slot}, mP D mb σ H → mF mb s.heap H locs → lv_has ls 14 [(0, .ref mb), (1, .int x1), (2, .int x2), (3, .int x3), (4, .int x4), (5, .int x5)] → k10 x1 x2 x3 x4 x5 σ = some q → mWw p l e 1 21 s m args below meth c D mb q none H locs (F0 m 10 ls [])) (hk76 : ∀ {x1 : Int32} {x2 : Int32} {x3 : Int32} {x4 : Int32} {x5 : Int32} {x6 : Int32} {x7 : Int32} {σ : mS} {H : Heap} {locs : List Loc} {ls : Array Slot}, mP D mb σ H → mF mb s.heap H locs → lv_has ls 14 [(0, .ref mb), (1, .int x1), (2, .int x2), (3, .int x3), (4, .int x4), (5, .int x5), (6, .int x6), (7, .int x7)] → k76 x1 x2 x3 x4 x5 x6 x7 σ = some q → mWw p l e 1 21 s m args below meth c D mb q none H locs (F0 m 76 ls [])) (hl : lv_has ls 14 [(0, .ref mb), (1, .int x1), (2, .int x2), (3, .int x3), (4, .int x4), (5, .int x5), (6, .int x6), (7, .int x7), (8, .int x8), (9, .int x9), (11, .int x11), (12, .int x12)]) (h : f_study_227 k10 k76 x1 x2 x3 x4 x5 x6 x7 x8 x9 x11 x12 y1 σ = some q) : mWw p l e 1 21 s m args below meth c D mb q none H locs (F0 m 227 ls [.int y1, .ref (mA mb 14)]) := by
  have hx := X.1
  have hb := X.2.1
  have hown := X.2.2.2.1
  have hts := X.2.2.2.2.1
  have h : ((rd σ 14 y1).bind (fun v1 => if v1 = (1:Int32) then (f_study_237 k10 k76 (x1) (x2) (x3) (x4) (x5) (x6) (x7) (x8) (x9) (x11) (x12) ((1:Int32)) σ) else (f_study_236 k10 k76 (x1) (x2) (x3) (x4) (x5) (x6) (x7) (x8) (x9) (x11) (x12) σ))) = some q := h
  obtain ⟨v1, hv1, h⟩ := ob h
  refine m_ald X hP hv1 dX12_study_227 ?_
  refine lv_iconst (v := (1:Int32)) hx hb dX12_study_228 (by decide) ?_
  refine lv_icmp_ne (tgt := 236) hx hb dX12_study_229 rfl (fun hc => ?_) (fun hc => ?_)
  · have h := ine hc h
    exact N_study_236 X hP hF hk10 hk76 (lv_sub hl [0, 1, 2, 3, 4, 5, 6, 7, 8, 9, 10, 11] rfl) h
  · have h := ip hc h
    refine lv_iconst (v := (1:Int32)) hx hb dX12_study_232 (by decide) ?_
    refine lv_goto (tgt := 237) hx hb dX12_study_233 rfl ?_
    exact N_study_237 X hP hF hk10 hk76 (lv_sub hl [0, 1, 2, 3, 4, 5, 6, 7, 8, 9, 10, 11] rfl) h
set_option maxRecDepth 20000 in
set_option maxHeartbeats 4000000 in
theorem N_study_200 {p : Program} {l : Launch} {e : Env} {s : State} {m : MethodId} {args : Array Value} {below : List Frame} {meth : Method} {c : Code} {D : mD} {mb : Nat} {k10 : Int32 → Int32 → Int32 → Int32 → Int32 → mS → Option (mS)} {k76 : Int32 → Int32 → Int32 → Int32 → Int32 → Int32 → Int32 → mS → Option (mS)}  {x1 : Int32} {x2 : Int32} {x3 : Int32} {x4 : Int32} {x5 : Int32} {x6 : Int32} {x7 : Int32} {x8 : Int32} {x9 : Int32} {x10 : Int32} {x11 : Int32} {y0 : Int32} {σ : mS} {H : Heap} {locs : List Loc} {ls : Array Slot} {q : mS} (X : mX p s m args meth c cX12_study 14 none D) (hP : mP D mb σ H) (hF : mF mb s.heap H locs) (hk10 : ∀ {x1 : Int32} {x2 : Int32} {x3 : Int32} {x4 : Int32} {x5 : Int32} {σ : mS} {H : Heap} {locs : List Loc} {ls : Array Slot}, mP D mb σ H → mF mb s.heap H locs → lv_has ls 14 [(0, .ref mb), (1, .int x1), (2, .int x2), (3, .int x3), (4, .int x4), (5, .int x5)] → k10 x1 x2 x3 x4 x5 σ = some q → mWw p l e 1 21 s m args below meth c D mb q none H locs (F0 m 10 ls [])) (hk76 : ∀ {x1 : Int32} {x2 : Int32} {x3 : Int32} {x4 : Int32} {x5 : Int32} {x6 : Int32} {x7 : Int32} {σ : mS} {H : Heap} {locs : List Loc} {ls : Array Slot}, mP D mb σ H → mF mb s.heap H locs → lv_has ls 14 [(0, .ref mb), (1, .int x1), (2, .int x2), (3, .int x3), (4, .int x4), (5, .int x5), (6, .int x6), (7, .int x7)] → k76 x1 x2 x3 x4 x5 x6 x7 σ = some q → mWw p l e 1 21 s m args below meth c D mb q none H locs (F0 m 76 ls [])) (hl : lv_has ls 14 [(0, .ref mb), (1, .int x1), (2, .int x2), (3, .int x3), (4, .int x4), (5, .int x5), (6, .int x6), (7, .int x7), (8, .int x8), (9, .int x9), (10, .int x10), (11, .int x11)]) (h : f_study_200 k10 k76 x1 x2 x3 x4 x5 x6 x7 x8 x9 x10 x11 y0 σ = some q) : mWw p l e 1 21 s m args below meth c D mb q none H locs (F0 m 200 ls [.int y0]) := by
  have hx := X.1
  have hb := X.2.1
  have hown := X.2.2.2.1
  have hts := X.2.2.2.2.1
  have h : (if x6 = (0:Int32) then (f_study_236 k10 k76 (x1) (x2) (x3) (x4) (x5) (x6) (x7) (x8) (x9) (x11) (y0) σ) else (if x10 = (0:Int32) then (f_study_236 k10 k76 (x1) (x2) (x3) (x4) (x5) (x6) (x7) (x8) (x9) (x11) (y0) σ) else (if (0:Int32) ≤ x11 then (f_study_227 k10 k76 (x1) (x2) (x3) (x4) (x5) (x6) (x7) (x8) (x9) (x11) (y0) (x11) σ) else (f_study_227 k10 k76 (x1) (x2) (x3) (x4) (x5) (x6) (x7) (x8) (x9) (x11) (y0) ((0:Int32)) σ)))) = some q := h
  refine lv_istore hx hb dX12_study_200 hl (Nat.le_of_ble_eq_true rfl) rfl (fun ls (hl : lv_has ls 14 [(12, .int y0), (0, .ref mb), (1, .int x1), (2, .int x2), (3, .int x3), (4, .int x4), (5, .int x5), (6, .int x6), (7, .int x7), (8, .int x8), (9, .int x9), (10, .int x10), (11, .int x11)]) => ?_)
  refine lv_iload hx hb dX12_study_202 (lv_at hl 7 rfl) ?_
  refine lv_if_eq (tgt := 236) hx hb dX12_study_204 rfl (fun hc => ?_) (fun hc => ?_)
  · have h := ip hc h
    exact N_study_236 X hP hF hk10 hk76 (lv_sub hl [1, 2, 3, 4, 5, 6, 7, 8, 9, 10, 12, 0] rfl) h
  · have h := ine hc h
    refine lv_iload hx hb dX12_study_207 (lv_at hl 11 rfl) ?_
    refine lv_if_eq (tgt := 236) hx hb dX12_study_209 rfl (fun hc => ?_) (fun hc => ?_)
    · have h := ip hc h
      exact N_study_236 X hP hF hk10 hk76 (lv_sub hl [1, 2, 3, 4, 5, 6, 7, 8, 9, 10, 12, 0] rfl) h
    · have h := ine hc h
      refine lv_aload_n hx hb dX12_study_212 rfl (lv_at hl 1 rfl) ?_
      refine mg_nc X hP dX12_study_213 ?_
      refine lv_iload hx hb dX12_study_216 (lv_at hl 12 rfl) ?_
      refine lv_if_ge (tgt := 225) hx hb dX12_study_218 rfl (fun hc => ?_) (fun hc => ?_)
      · have h := ip hc h
        refine lv_iload hx hb dX12_study_225 (lv_at hl 12 rfl) ?_
        exact N_study_227 X hP hF hk10 hk76 (lv_sub hl [1, 2, 3, 4, 5, 6, 7, 8, 9, 10, 12, 0] rfl) h
      · have h := ine hc h
        refine lv_iconst (v := (0:Int32)) hx hb dX12_study_221 (by decide) ?_
        refine lv_goto (tgt := 227) hx hb dX12_study_222 rfl ?_
        exact N_study_227 X hP hF hk10 hk76 (lv_sub hl [1, 2, 3, 4, 5, 6, 7, 8, 9, 10, 12, 0] rfl) h
set_option maxRecDepth 20000 in
set_option maxHeartbeats 4000000 in
theorem N_study_182 {p : Program} {l : Launch} {e : Env} {s : State} {m : MethodId} {args : Array Value} {below : List Frame} {meth : Method} {c : Code} {D : mD} {mb : Nat} {k10 : Int32 → Int32 → Int32 → Int32 → Int32 → mS → Option (mS)} {k76 : Int32 → Int32 → Int32 → Int32 → Int32 → Int32 → Int32 → mS → Option (mS)}  {x1 : Int32} {x2 : Int32} {x3 : Int32} {x4 : Int32} {x5 : Int32} {x6 : Int32} {x7 : Int32} {x8 : Int32} {x9 : Int32} {x10 : Int32} {y0 : Int32} {σ : mS} {H : Heap} {locs : List Loc} {ls : Array Slot} {q : mS} (X : mX p s m args meth c cX12_study 14 none D) (hP : mP D mb σ H) (hF : mF mb s.heap H locs) (hk10 : ∀ {x1 : Int32} {x2 : Int32} {x3 : Int32} {x4 : Int32} {x5 : Int32} {σ : mS} {H : Heap} {locs : List Loc} {ls : Array Slot}, mP D mb σ H → mF mb s.heap H locs → lv_has ls 14 [(0, .ref mb), (1, .int x1), (2, .int x2), (3, .int x3), (4, .int x4), (5, .int x5)] → k10 x1 x2 x3 x4 x5 σ = some q → mWw p l e 1 21 s m args below meth c D mb q none H locs (F0 m 10 ls [])) (hk76 : ∀ {x1 : Int32} {x2 : Int32} {x3 : Int32} {x4 : Int32} {x5 : Int32} {x6 : Int32} {x7 : Int32} {σ : mS} {H : Heap} {locs : List Loc} {ls : Array Slot}, mP D mb σ H → mF mb s.heap H locs → lv_has ls 14 [(0, .ref mb), (1, .int x1), (2, .int x2), (3, .int x3), (4, .int x4), (5, .int x5), (6, .int x6), (7, .int x7)] → k76 x1 x2 x3 x4 x5 x6 x7 σ = some q → mWw p l e 1 21 s m args below meth c D mb q none H locs (F0 m 76 ls [])) (hl : lv_has ls 14 [(0, .ref mb), (1, .int x1), (2, .int x2), (3, .int x3), (4, .int x4), (5, .int x5), (6, .int x6), (7, .int x7), (8, .int x8), (9, .int x9), (10, .int x10)]) (h : f_study_182 k10 k76 x1 x2 x3 x4 x5 x6 x7 x8 x9 x10 y0 σ = some q) : mWw p l e 1 21 s m args below meth c D mb q none H locs (F0 m 182 ls [.int y0]) := by
  have hx := X.1
  have hb := X.2.1
  have hown := X.2.2.2.1
  have hts := X.2.2.2.2.1
  have h : (if (0:Int32) ≤ y0 then ((rd σ 25 y0).bind (fun v1 => f_study_200 k10 k76 (x1) (x2) (x3) (x4) (x5) (x6) (x7) (x8) (x9) (x10) (y0) (v1) σ)) else (f_study_200 k10 k76 (x1) (x2) (x3) (x4) (x5) (x6) (x7) (x8) (x9) (x10) (y0) ((0:Int32)) σ)) = some q := h
  refine lv_istore hx hb dX12_study_182 hl (Nat.le_of_ble_eq_true rfl) rfl (fun ls (hl : lv_has ls 14 [(11, .int y0), (0, .ref mb), (1, .int x1), (2, .int x2), (3, .int x3), (4, .int x4), (5, .int x5), (6, .int x6), (7, .int x7), (8, .int x8), (9, .int x9), (10, .int x10)]) => ?_)
  refine lv_iload hx hb dX12_study_184 (lv_at hl 0 rfl) ?_
  refine lv_if_ge (tgt := 193) hx hb dX12_study_186 rfl (fun hc => ?_) (fun hc => ?_)
  · have h := ip hc h
    refine lv_aload_n hx hb dX12_study_193 rfl (lv_at hl 1 rfl) ?_
    refine mg_all X hP dX12_study_194 ?_
    refine lv_iload hx hb dX12_study_197 (lv_at hl 0 rfl) ?_
    obtain ⟨v1, hv1, h⟩ := ob h
    refine m_ald X hP hv1 dX12_study_199 ?_
    exact N_study_200 X hP hF hk10 hk76 (lv_sub hl [1, 2, 3, 4, 5, 6, 7, 8, 9, 10, 11, 0] rfl) h
  · have h := ine hc h
    refine lv_iconst (v := (0:Int32)) hx hb dX12_study_189 (by decide) ?_
    refine lv_goto (tgt := 200) hx hb dX12_study_190 rfl ?_
    exact N_study_200 X hP hF hk10 hk76 (lv_sub hl [1, 2, 3, 4, 5, 6, 7, 8, 9, 10, 11, 0] rfl) h
set_option maxRecDepth 20000 in
set_option maxHeartbeats 4000000 in
theorem N_study_142 {p : Program} {l : Launch} {e : Env} {s : State} {m : MethodId} {args : Array Value} {below : List Frame} {meth : Method} {c : Code} {D : mD} {mb : Nat} {k10 : Int32 → Int32 → Int32 → Int32 → Int32 → mS → Option (mS)} {k76 : Int32 → Int32 → Int32 → Int32 → Int32 → Int32 → Int32 → mS → Option (mS)}  {x1 : Int32} {x2 : Int32} {x3 : Int32} {x4 : Int32} {x5 : Int32} {x6 : Int32} {x7 : Int32} {x8 : Int32} {x9 : Int32} {y0 : Int32} {σ : mS} {H : Heap} {locs : List Loc} {ls : Array Slot} {q : mS} (X : mX p s m args meth c cX12_study 14 none D) (hP : mP D mb σ H) (hF : mF mb s.heap H locs) (hk10 : ∀ {x1 : Int32} {x2 : Int32} {x3 : Int32} {x4 : Int32} {x5 : Int32} {σ : mS} {H : Heap} {locs : List Loc} {ls : Array Slot}, mP D mb σ H → mF mb s.heap H locs → lv_has ls 14 [(0, .ref mb), (1, .int x1), (2, .int x2), (3, .int x3), (4, .int x4), (5, .int x5)] → k10 x1 x2 x3 x4 x5 σ = some q → mWw p l e 1 21 s m args below meth c D mb q none H locs (F0 m 10 ls [])) (hk76 : ∀ {x1 : Int32} {x2 : Int32} {x3 : Int32} {x4 : Int32} {x5 : Int32} {x6 : Int32} {x7 : Int32} {σ : mS} {H : Heap} {locs : List Loc} {ls : Array Slot}, mP D mb σ H → mF mb s.heap H locs → lv_has ls 14 [(0, .ref mb), (1, .int x1), (2, .int x2), (3, .int x3), (4, .int x4), (5, .int x5), (6, .int x6), (7, .int x7)] → k76 x1 x2 x3 x4 x5 x6 x7 σ = some q → mWw p l e 1 21 s m args below meth c D mb q none H locs (F0 m 76 ls [])) (hl : lv_has ls 14 [(0, .ref mb), (1, .int x1), (2, .int x2), (3, .int x3), (4, .int x4), (5, .int x5), (6, .int x6), (7, .int x7), (8, .int x8), (9, .int x9)]) (h : f_study_142 k10 k76 x1 x2 x3 x4 x5 x6 x7 x8 x9 y0 σ = some q) : mWw p l e 1 21 s m args below meth c D mb q none H locs (F0 m 142 ls [.int y0]) := by
  have hx := X.1
  have hb := X.2.1
  have hown := X.2.2.2.1
  have hts := X.2.2.2.2.1
  have h : (if y0 = (0:Int32) then ((rd σ 17 x8).bind (fun v1 => if v1 = (7:Int32) then ((rd σ 19 x8).bind (fun v2 => f_study_182 k10 k76 (x1) (x2) (x3) (x4) (x5) (x6) (x7) (x8) (x9) (y0) (v2) σ)) else (f_study_182 k10 k76 (x1) (x2) (x3) (x4) (x5) (x6) (x7) (x8) (x9) (y0) (((-1):Int32)) σ))) else ((rd σ 18 x8).bind (fun v3 => f_study_182 k10 k76 (x1) (x2) (x3) (x4) (x5) (x6) (x7) (x8) (x9) (y0) (v3) σ))) = some q := h
  refine lv_istore hx hb dX12_study_142 hl (Nat.le_of_ble_eq_true rfl) rfl (fun ls (hl : lv_has ls 14 [(10, .int y0), (0, .ref mb), (1, .int x1), (2, .int x2), (3, .int x3), (4, .int x4), (5, .int x5), (6, .int x6), (7, .int x7), (8, .int x8), (9, .int x9)]) => ?_)
  refine lv_iload hx hb dX12_study_144 (lv_at hl 0 rfl) ?_
  refine lv_if_eq (tgt := 159) hx hb dX12_study_146 rfl (fun hc => ?_) (fun hc => ?_)
  · have h := ip hc h
    refine lv_aload_n hx hb dX12_study_159 rfl (lv_at hl 1 rfl) ?_
    refine mg_tk X hP dX12_study_160 ?_
    refine lv_iload hx hb dX12_study_163 (lv_at hl 9 rfl) ?_
    obtain ⟨v1, hv1, h⟩ := ob h
    refine m_ald X hP hv1 dX12_study_165 ?_
    refine lv_bipush (v := (7:Int32)) hx hb dX12_study_166 (by decide) ?_
    refine lv_icmp_ne (tgt := 181) hx hb dX12_study_168 rfl (fun hc => ?_) (fun hc => ?_)
    · have h := ine hc h
      refine lv_iconst (v := ((-1):Int32)) hx hb dX12_study_181 (by decide) ?_
      exact N_study_182 X hP hF hk10 hk76 (lv_sub hl [1, 2, 3, 4, 5, 6, 7, 8, 9, 10, 0] rfl) h
    · have h := ip hc h
      refine lv_aload_n hx hb dX12_study_171 rfl (lv_at hl 1 rfl) ?_
      refine mg_tb X hP dX12_study_172 ?_
      refine lv_iload hx hb dX12_study_175 (lv_at hl 9 rfl) ?_
      obtain ⟨v2, hv2, h⟩ := ob h
      refine m_ald X hP hv2 dX12_study_177 ?_
      refine lv_goto (tgt := 182) hx hb dX12_study_178 rfl ?_
      exact N_study_182 X hP hF hk10 hk76 (lv_sub hl [1, 2, 3, 4, 5, 6, 7, 8, 9, 10, 0] rfl) h
  · have h := ine hc h
    refine lv_aload_n hx hb dX12_study_149 rfl (lv_at hl 1 rfl) ?_
    refine mg_ta X hP dX12_study_150 ?_
    refine lv_iload hx hb dX12_study_153 (lv_at hl 9 rfl) ?_
    obtain ⟨v3, hv3, h⟩ := ob h
    refine m_ald X hP hv3 dX12_study_155 ?_
    refine lv_goto (tgt := 182) hx hb dX12_study_156 rfl ?_
    exact N_study_182 X hP hF hk10 hk76 (lv_sub hl [1, 2, 3, 4, 5, 6, 7, 8, 9, 10, 0] rfl) h
set_option maxRecDepth 20000 in
set_option maxHeartbeats 4000000 in
theorem N_study_137 {p : Program} {l : Launch} {e : Env} {s : State} {m : MethodId} {args : Array Value} {below : List Frame} {meth : Method} {c : Code} {D : mD} {mb : Nat} {k10 : Int32 → Int32 → Int32 → Int32 → Int32 → mS → Option (mS)} {k76 : Int32 → Int32 → Int32 → Int32 → Int32 → Int32 → Int32 → mS → Option (mS)}  {x1 : Int32} {x2 : Int32} {x3 : Int32} {x4 : Int32} {x5 : Int32} {x6 : Int32} {x7 : Int32} {x8 : Int32} {x9 : Int32} {σ : mS} {H : Heap} {locs : List Loc} {ls : Array Slot} {q : mS} (X : mX p s m args meth c cX12_study 14 none D) (hP : mP D mb σ H) (hF : mF mb s.heap H locs) (hk10 : ∀ {x1 : Int32} {x2 : Int32} {x3 : Int32} {x4 : Int32} {x5 : Int32} {σ : mS} {H : Heap} {locs : List Loc} {ls : Array Slot}, mP D mb σ H → mF mb s.heap H locs → lv_has ls 14 [(0, .ref mb), (1, .int x1), (2, .int x2), (3, .int x3), (4, .int x4), (5, .int x5)] → k10 x1 x2 x3 x4 x5 σ = some q → mWw p l e 1 21 s m args below meth c D mb q none H locs (F0 m 10 ls [])) (hk76 : ∀ {x1 : Int32} {x2 : Int32} {x3 : Int32} {x4 : Int32} {x5 : Int32} {x6 : Int32} {x7 : Int32} {σ : mS} {H : Heap} {locs : List Loc} {ls : Array Slot}, mP D mb σ H → mF mb s.heap H locs → lv_has ls 14 [(0, .ref mb), (1, .int x1), (2, .int x2), (3, .int x3), (4, .int x4), (5, .int x5), (6, .int x6), (7, .int x7)] → k76 x1 x2 x3 x4 x5 x6 x7 σ = some q → mWw p l e 1 21 s m args below meth c D mb q none H locs (F0 m 76 ls [])) (hl : lv_has ls 14 [(0, .ref mb), (1, .int x1), (2, .int x2), (3, .int x3), (4, .int x4), (5, .int x5), (6, .int x6), (7, .int x7), (8, .int x8), (9, .int x9)]) (h : f_study_137 k10 k76 x1 x2 x3 x4 x5 x6 x7 x8 x9 σ = some q) : mWw p l e 1 21 s m args below meth c D mb q none H locs (F0 m 137 ls []) := by
  have hx := X.1
  have hb := X.2.1
  have hown := X.2.2.2.1
  have hts := X.2.2.2.2.1
  have h : (f_study_142 k10 k76 (x1) (x2) (x3) (x4) (x5) (x6) (x7) (x8) (x9) ((1:Int32)) σ) = some q := h
  refine lv_iconst (v := (1:Int32)) hx hb dX12_study_137 (by decide) ?_
  refine lv_goto (tgt := 142) hx hb dX12_study_138 rfl ?_
  exact N_study_142 X hP hF hk10 hk76 (lv_sub hl [0, 1, 2, 3, 4, 5, 6, 7, 8, 9] rfl) h
set_option maxRecDepth 20000 in
set_option maxHeartbeats 4000000 in
theorem N_study_76 {p : Program} {l : Launch} {e : Env} {s : State} {m : MethodId} {args : Array Value} {below : List Frame} {meth : Method} {c : Code} {D : mD} {mb : Nat} {k10 : Int32 → Int32 → Int32 → Int32 → Int32 → mS → Option (mS)} {n : Nat} {x1 : Int32} {x2 : Int32} {x3 : Int32} {x4 : Int32} {x5 : Int32} {x6 : Int32} {x7 : Int32} {σ : mS} {H : Heap} {locs : List Loc} {ls : Array Slot} {q : mS} (X : mX p s m args meth c cX12_study 14 none D) (hP : mP D mb σ H) (hF : mF mb s.heap H locs) (hk10 : ∀ {x1 : Int32} {x2 : Int32} {x3 : Int32} {x4 : Int32} {x5 : Int32} {σ : mS} {H : Heap} {locs : List Loc} {ls : Array Slot}, mP D mb σ H → mF mb s.heap H locs → lv_has ls 14 [(0, .ref mb), (1, .int x1), (2, .int x2), (3, .int x3), (4, .int x4), (5, .int x5)] → k10 x1 x2 x3 x4 x5 σ = some q → mWw p l e 1 21 s m args below meth c D mb q none H locs (F0 m 10 ls [])) (hl : lv_has ls 14 [(0, .ref mb), (1, .int x1), (2, .int x2), (3, .int x3), (4, .int x4), (5, .int x5), (6, .int x6), (7, .int x7)]) (h : f_study_76 k10 n x1 x2 x3 x4 x5 x6 x7 σ = some q) : mWw p l e 1 21 s m args below meth c D mb q none H locs (F0 m 76 ls []) := by
  have hx := X.1
  have hb := X.2.1
  have hown := X.2.2.2.1
  have hts := X.2.2.2.2.1
  induction n generalizing x1 x2 x3 x4 x5 x6 x7 σ H locs ls with
  | zero => exact absurd (show none = some q from h) (by simp)
  | succ n ih =>
    have h : ((rd σ 16 (((4:Int32) * x1) + x5)).bind (fun v1 => if v1 ≤ x7 then (k10 (x1) (x2) (x3) (x4) ((x5 + (1:Int32))) σ) else ((f_bits (((((16:Int32) * x1) + ((4:Int32) * x5)) + x7)) σ).bind (fun v2 => (rd σ 17 ((((16:Int32) * x1) + ((4:Int32) * x5)) + x7)).bind (fun v3 => if v3 = (5:Int32) then (f_study_137 k10 (f_study_76 k10 n) (x1) (x2) (x3) (x4) (x5) (x6) (x7) (((((16:Int32) * x1) + ((4:Int32) * x5)) + x7)) (v2) σ) else ((rd σ 17 ((((16:Int32) * x1) + ((4:Int32) * x5)) + x7)).bind (fun v4 => if v4 = (6:Int32) then (f_study_137 k10 (f_study_76 k10 n) (x1) (x2) (x3) (x4) (x5) (x6) (x7) (((((16:Int32) * x1) + ((4:Int32) * x5)) + x7)) (v2) σ) else (f_study_142 k10 (f_study_76 k10 n) (x1) (x2) (x3) (x4) (x5) (x6) (x7) (((((16:Int32) * x1) + ((4:Int32) * x5)) + x7)) (v2) ((0:Int32)) σ)))))))) = some q := h
    refine lv_iload hx hb dX12_study_76 (lv_at hl 7 rfl) ?_
    refine lv_aload_n hx hb dX12_study_78 rfl (lv_at hl 0 rfl) ?_
    refine mg_nt X hP dX12_study_79 ?_
    refine lv_iconst (v := (4:Int32)) hx hb dX12_study_82 (by decide) ?_
    refine lv_iload_n hx hb dX12_study_83 rfl (lv_at hl 1 rfl) ?_
    refine lv_imul hx hb dX12_study_84 ?_
    refine lv_iload hx hb dX12_study_85 (lv_at hl 5 rfl) ?_
    refine lv_iadd hx hb dX12_study_87 ?_
    obtain ⟨v1, hv1, h⟩ := ob h
    refine m_ald X hP hv1 dX12_study_88 ?_
    refine lv_icmp_ge (tgt := 361) hx hb dX12_study_89 rfl (fun hc => ?_) (fun hc => ?_)
    · have h := ip hc h
      refine lv_iinc (v := (x5 + (1:Int32))) hx hb dX12_study_361 hl (k := 5) rfl rfl (Nat.le_of_ble_eq_true rfl) rfl (fun ls (hl : lv_has ls 14 [(5, .int (x5 + (1:Int32))), (0, .ref mb), (1, .int x1), (2, .int x2), (3, .int x3), (4, .int x4), (6, .int x6), (7, .int x7)]) => ?_)
      refine lv_goto (tgt := 10) hx hb dX12_study_364 rfl ?_
      exact hk10 hP hF (lv_sub hl [1, 2, 3, 4, 5, 0] rfl) h
    · have h := ine hc h
      refine lv_bipush (v := (16:Int32)) hx hb dX12_study_92 (by decide) ?_
      refine lv_iload_n hx hb dX12_study_94 rfl (lv_at hl 1 rfl) ?_
      refine lv_imul hx hb dX12_study_95 ?_
      refine lv_iconst (v := (4:Int32)) hx hb dX12_study_96 (by decide) ?_
      refine lv_iload hx hb dX12_study_97 (lv_at hl 5 rfl) ?_
      refine lv_imul hx hb dX12_study_99 ?_
      refine lv_iadd hx hb dX12_study_100 ?_
      refine lv_iload hx hb dX12_study_101 (lv_at hl 7 rfl) ?_
      refine lv_iadd hx hb dX12_study_103 ?_
      refine lv_istore hx hb dX12_study_104 hl (Nat.le_of_ble_eq_true rfl) rfl (fun ls (hl : lv_has ls 14 [(8, .int ((((16:Int32) * x1) + ((4:Int32) * x5)) + x7)), (0, .ref mb), (1, .int x1), (2, .int x2), (3, .int x3), (4, .int x4), (5, .int x5), (6, .int x6), (7, .int x7)]) => ?_)
      refine lv_aload_n hx hb dX12_study_106 rfl (lv_at hl 1 rfl) ?_
      refine lv_iload hx hb dX12_study_107 (lv_at hl 0 rfl) ?_
      obtain ⟨v2, hv2, h⟩ := ob h
      refine cl_bits X hP hv2 ⟨Nat.le_of_ble_eq_true rfl, Nat.le_of_ble_eq_true rfl⟩ hl.1 (Nat.le_of_ble_eq_true rfl) dX12_study_109 ?_
      refine lv_istore hx hb dX12_study_112 hl (Nat.le_of_ble_eq_true rfl) rfl (fun ls (hl : lv_has ls 14 [(9, .int v2), (8, .int ((((16:Int32) * x1) + ((4:Int32) * x5)) + x7)), (0, .ref mb), (1, .int x1), (2, .int x2), (3, .int x3), (4, .int x4), (5, .int x5), (6, .int x6), (7, .int x7)]) => ?_)
      refine lv_aload_n hx hb dX12_study_114 rfl (lv_at hl 2 rfl) ?_
      refine mg_tk X hP dX12_study_115 ?_
      refine lv_iload hx hb dX12_study_118 (lv_at hl 1 rfl) ?_
      obtain ⟨v3, hv3, h⟩ := ob h
      refine m_ald X hP hv3 dX12_study_120 ?_
      refine lv_iconst (v := (5:Int32)) hx hb dX12_study_121 (by decide) ?_
      refine lv_icmp_eq (tgt := 137) hx hb dX12_study_122 rfl (fun hc => ?_) (fun hc => ?_)
      · have h := ip hc h
        exact N_study_137 X hP hF hk10 ih (lv_sub hl [2, 3, 4, 5, 6, 7, 8, 9, 1, 0] rfl) h
      · have h := ine hc h
        refine lv_aload_n hx hb dX12_study_125 rfl (lv_at hl 2 rfl) ?_
        refine mg_tk X hP dX12_study_126 ?_
        refine lv_iload hx hb dX12_study_129 (lv_at hl 1 rfl) ?_
        obtain ⟨v4, hv4, h⟩ := ob h
        refine m_ald X hP hv4 dX12_study_131 ?_
        refine lv_bipush (v := (6:Int32)) hx hb dX12_study_132 (by decide) ?_
        refine lv_icmp_ne (tgt := 141) hx hb dX12_study_134 rfl (fun hc => ?_) (fun hc => ?_)
        · have h := ine hc h
          refine lv_iconst (v := (0:Int32)) hx hb dX12_study_141 (by decide) ?_
          exact N_study_142 X hP hF hk10 ih (lv_sub hl [2, 3, 4, 5, 6, 7, 8, 9, 1, 0] rfl) h
        · have h := ip hc h
          exact N_study_137 X hP hF hk10 ih (lv_sub hl [2, 3, 4, 5, 6, 7, 8, 9, 1, 0] rfl) h
set_option maxRecDepth 20000 in
set_option maxHeartbeats 4000000 in
theorem N_study_70 {p : Program} {l : Launch} {e : Env} {s : State} {m : MethodId} {args : Array Value} {below : List Frame} {meth : Method} {c : Code} {D : mD} {mb : Nat} {k10 : Int32 → Int32 → Int32 → Int32 → Int32 → mS → Option (mS)}  {x1 : Int32} {x2 : Int32} {x3 : Int32} {x5 : Int32} {x6 : Int32} {y0 : Int32} {y1 : Int32} {σ : mS} {H : Heap} {locs : List Loc} {ls : Array Slot} {q : mS} (X : mX p s m args meth c cX12_study 14 none D) (hP : mP D mb σ H) (hF : mF mb s.heap H locs) (hk10 : ∀ {x1 : Int32} {x2 : Int32} {x3 : Int32} {x4 : Int32} {x5 : Int32} {σ : mS} {H : Heap} {locs : List Loc} {ls : Array Slot}, mP D mb σ H → mF mb s.heap H locs → lv_has ls 14 [(0, .ref mb), (1, .int x1), (2, .int x2), (3, .int x3), (4, .int x4), (5, .int x5)] → k10 x1 x2 x3 x4 x5 σ = some q → mWw p l e 1 21 s m args below meth c D mb q none H locs (F0 m 10 ls [])) (hl : lv_has ls 14 [(0, .ref mb), (1, .int x1), (2, .int x2), (3, .int x3), (5, .int x5), (6, .int x6)]) (h : f_study_70 k10 x1 x2 x3 x5 x6 y0 y1 σ = some q) : mWw p l e 1 21 s m args below meth c D mb q none H locs (F0 m 70 ls [.int y1, .int y0]) := by
  have hx := X.1
  have hb := X.2.1
  have hown := X.2.2.2.1
  have hts := X.2.2.2.2.1
  have h : (f_study_76 k10 4000 (x1) (x2) (x3) ((y0 ||| y1)) (x5) (x6) ((0:Int32)) σ) = some q := h
  refine lv_ior hx hb dX12_study_70 ?_
  refine lv_istore hx hb dX12_study_71 hl (Nat.le_of_ble_eq_true rfl) rfl (fun ls (hl : lv_has ls 14 [(4, .int (y0 ||| y1)), (0, .ref mb), (1, .int x1), (2, .int x2), (3, .int x3), (5, .int x5), (6, .int x6)]) => ?_)
  refine lv_iconst (v := (0:Int32)) hx hb dX12_study_73 (by decide) ?_
  refine lv_istore hx hb dX12_study_74 hl (Nat.le_of_ble_eq_true rfl) rfl (fun ls (hl : lv_has ls 14 [(7, .int (0:Int32)), (4, .int (y0 ||| y1)), (0, .ref mb), (1, .int x1), (2, .int x2), (3, .int x3), (5, .int x5), (6, .int x6)]) => ?_)
  exact N_study_76 X hP hF hk10 (lv_sub hl [2, 3, 4, 5, 1, 6, 7, 0] rfl) h
set_option maxRecDepth 20000 in
set_option maxHeartbeats 4000000 in
theorem N_study_69 {p : Program} {l : Launch} {e : Env} {s : State} {m : MethodId} {args : Array Value} {below : List Frame} {meth : Method} {c : Code} {D : mD} {mb : Nat} {k10 : Int32 → Int32 → Int32 → Int32 → Int32 → mS → Option (mS)}  {x1 : Int32} {x2 : Int32} {x3 : Int32} {x5 : Int32} {x6 : Int32} {y0 : Int32} {σ : mS} {H : Heap} {locs : List Loc} {ls : Array Slot} {q : mS} (X : mX p s m args meth c cX12_study 14 none D) (hP : mP D mb σ H) (hF : mF mb s.heap H locs) (hk10 : ∀ {x1 : Int32} {x2 : Int32} {x3 : Int32} {x4 : Int32} {x5 : Int32} {σ : mS} {H : Heap} {locs : List Loc} {ls : Array Slot}, mP D mb σ H → mF mb s.heap H locs → lv_has ls 14 [(0, .ref mb), (1, .int x1), (2, .int x2), (3, .int x3), (4, .int x4), (5, .int x5)] → k10 x1 x2 x3 x4 x5 σ = some q → mWw p l e 1 21 s m args below meth c D mb q none H locs (F0 m 10 ls [])) (hl : lv_has ls 14 [(0, .ref mb), (1, .int x1), (2, .int x2), (3, .int x3), (5, .int x5), (6, .int x6)]) (h : f_study_69 k10 x1 x2 x3 x5 x6 y0 σ = some q) : mWw p l e 1 21 s m args below meth c D mb q none H locs (F0 m 69 ls [.int y0]) := by
  have hx := X.1
  have hb := X.2.1
  have hown := X.2.2.2.1
  have hts := X.2.2.2.2.1
  have h : (f_study_70 k10 (x1) (x2) (x3) (x5) (x6) (y0) ((0:Int32)) σ) = some q := h
  refine lv_iconst (v := (0:Int32)) hx hb dX12_study_69 (by decide) ?_
  exact N_study_70 X hP hF hk10 (lv_sub hl [0, 1, 2, 3, 4, 5] rfl) h
set_option maxRecDepth 20000 in
set_option maxHeartbeats 4000000 in
theorem N_study_39 {p : Program} {l : Launch} {e : Env} {s : State} {m : MethodId} {args : Array Value} {below : List Frame} {meth : Method} {c : Code} {D : mD} {mb : Nat} {k10 : Int32 → Int32 → Int32 → Int32 → Int32 → mS → Option (mS)}  {x1 : Int32} {x2 : Int32} {x3 : Int32} {x4 : Int32} {x5 : Int32} {y0 : Int32} {σ : mS} {H : Heap} {locs : List Loc} {ls : Array Slot} {q : mS} (X : mX p s m args meth c cX12_study 14 none D) (hP : mP D mb σ H) (hF : mF mb s.heap H locs) (hk10 : ∀ {x1 : Int32} {x2 : Int32} {x3 : Int32} {x4 : Int32} {x5 : Int32} {σ : mS} {H : Heap} {locs : List Loc} {ls : Array Slot}, mP D mb σ H → mF mb s.heap H locs → lv_has ls 14 [(0, .ref mb), (1, .int x1), (2, .int x2), (3, .int x3), (4, .int x4), (5, .int x5)] → k10 x1 x2 x3 x4 x5 σ = some q → mWw p l e 1 21 s m args below meth c D mb q none H locs (F0 m 10 ls [])) (hl : lv_has ls 14 [(0, .ref mb), (1, .int x1), (2, .int x2), (3, .int x3), (4, .int x4), (5, .int x5)]) (h : f_study_39 k10 x1 x2 x3 x4 x5 y0 σ = some q) : mWw p l e 1 21 s m args below meth c D mb q none H locs (F0 m 39 ls [.int y0]) := by
  have hx := X.1
  have hb := X.2.1
  have hown := X.2.2.2.1
  have hts := X.2.2.2.2.1
  have h : (if x5 ≤ (0:Int32) then (f_study_69 k10 (x1) (x2) (x3) (x5) (y0) (x4) σ) else ((rd σ 15 (((4:Int32) * x1) + x5)).bind (fun v1 => if v1 ≤ (1:Int32) then (f_study_69 k10 (x1) (x2) (x3) (x5) (y0) (x4) σ) else (f_study_70 k10 (x1) (x2) (x3) (x5) (y0) (x4) ((16384:Int32)) σ)))) = some q := h
  refine lv_istore hx hb dX12_study_39 hl (Nat.le_of_ble_eq_true rfl) rfl (fun ls (hl : lv_has ls 14 [(6, .int y0), (0, .ref mb), (1, .int x1), (2, .int x2), (3, .int x3), (4, .int x4), (5, .int x5)]) => ?_)
  refine lv_iload hx hb dX12_study_41 (lv_at hl 5 rfl) ?_
  refine lv_iload hx hb dX12_study_43 (lv_at hl 6 rfl) ?_
  refine lv_if_le (tgt := 69) hx hb dX12_study_45 rfl (fun hc => ?_) (fun hc => ?_)
  · have h := ip hc h
    exact N_study_69 X hP hF hk10 (lv_sub hl [1, 2, 3, 4, 6, 0] rfl) h
  · have h := ine hc h
    refine lv_aload_n hx hb dX12_study_48 rfl (lv_at hl 1 rfl) ?_
    refine mg_cb X hP dX12_study_49 ?_
    refine lv_iconst (v := (4:Int32)) hx hb dX12_study_52 (by decide) ?_
    refine lv_iload_n hx hb dX12_study_53 rfl (lv_at hl 2 rfl) ?_
    refine lv_imul hx hb dX12_study_54 ?_
    refine lv_iload hx hb dX12_study_55 (lv_at hl 6 rfl) ?_
    refine lv_iadd hx hb dX12_study_57 ?_
    obtain ⟨v1, hv1, h⟩ := ob h
    refine m_ald X hP hv1 dX12_study_58 ?_
    refine lv_iconst (v := (1:Int32)) hx hb dX12_study_59 (by decide) ?_
    refine lv_icmp_le (tgt := 69) hx hb dX12_study_60 rfl (fun hc => ?_) (fun hc => ?_)
    · have h := ip hc h
      exact N_study_69 X hP hF hk10 (lv_sub hl [1, 2, 3, 4, 6, 0] rfl) h
    · have h := ine hc h
      refine lv_sipush (v := (16384:Int32)) hx hb dX12_study_63 (by decide) ?_
      refine lv_goto (tgt := 70) hx hb dX12_study_66 rfl ?_
      exact N_study_70 X hP hF hk10 (lv_sub hl [1, 2, 3, 4, 6, 0] rfl) h
set_option maxRecDepth 20000 in
set_option maxHeartbeats 4000000 in
theorem N_study_10 {p : Program} {l : Launch} {e : Env} {s : State} {m : MethodId} {args : Array Value} {below : List Frame} {meth : Method} {c : Code} {D : mD} {mb : Nat}  {n : Nat} {x1 : Int32} {x2 : Int32} {x3 : Int32} {x4 : Int32} {x5 : Int32} {σ : mS} {H : Heap} {locs : List Loc} {ls : Array Slot} {q : mS} (X : mX p s m args meth c cX12_study 14 none D) (hP : mP D mb σ H) (hF : mF mb s.heap H locs)  (hl : lv_has ls 14 [(0, .ref mb), (1, .int x1), (2, .int x2), (3, .int x3), (4, .int x4), (5, .int x5)]) (h : f_study_10  n x1 x2 x3 x4 x5 σ = some q) : mWw p l e 1 21 s m args below meth c D mb q none H locs (F0 m 10 ls []) := by
  have hx := X.1
  have hb := X.2.1
  have hown := X.2.2.2.1
  have hts := X.2.2.2.2.1
  induction n generalizing x1 x2 x3 x4 x5 σ H locs ls with
  | zero => exact absurd (show none = some q from h) (by simp)
  | succ n ih =>
    have h : ((rd σ 14 x1).bind (fun v1 => if v1 ≤ x5 then ((wr σ 23 x1 x2).bind (fun s2 => (wr s2 25 x1 x4).bind (fun s3 => (rd s3 22 x1).bind (fun v4 => if v4 = (1:Int32) then (f_study_406 (x4) (x1) s3) else ((rd s3 21 x1).bind (fun v5 => if v5 < (0:Int32) then (f_study_412 (x1) (x3) s3) else (f_study_406 (x4) (x1) s3))))))) else ((rd σ 14 x1).bind (fun v6 => if x5 = (v6 - (1:Int32)) then (f_study_39 (f_study_10 n) (x1) (x2) (x3) (x4) (x5) ((1:Int32)) σ) else (f_study_39 (f_study_10 n) (x1) (x2) (x3) (x4) (x5) ((0:Int32)) σ))))) = some q := h
    refine lv_iload hx hb dX12_study_10 (lv_at hl 5 rfl) ?_
    refine lv_aload_n hx hb dX12_study_12 rfl (lv_at hl 0 rfl) ?_
    refine mg_nc X hP dX12_study_13 ?_
    refine lv_iload_n hx hb dX12_study_16 rfl (lv_at hl 1 rfl) ?_
    obtain ⟨v1, hv1, h⟩ := ob h
    refine m_ald X hP hv1 dX12_study_17 ?_
    refine lv_icmp_ge (tgt := 367) hx hb dX12_study_18 rfl (fun hc => ?_) (fun hc => ?_)
    · have h := ip hc h
      refine lv_aload_n hx hb dX12_study_367 rfl (lv_at hl 0 rfl) ?_
      refine mg_inLast X hP dX12_study_368 ?_
      refine lv_iload_n hx hb dX12_study_371 rfl (lv_at hl 1 rfl) ?_
      refine lv_iload_n hx hb dX12_study_372 rfl (lv_at hl 2 rfl) ?_
      obtain ⟨s2, hs2, h⟩ := ob h
      refine m_ast X hP hF hs2 dX12_study_373 (fun H locs hP hF => ?_)
      refine lv_aload_n hx hb dX12_study_374 rfl (lv_at hl 0 rfl) ?_
      refine mg_all X hP dX12_study_375 ?_
      refine lv_iload_n hx hb dX12_study_378 rfl (lv_at hl 1 rfl) ?_
      refine lv_iload hx hb dX12_study_379 (lv_at hl 4 rfl) ?_
      obtain ⟨s3, hs3, h⟩ := ob h
      refine m_ast X hP hF hs3 dX12_study_381 (fun H locs hP hF => ?_)
      refine lv_aload_n hx hb dX12_study_382 rfl (lv_at hl 0 rfl) ?_
      refine mg_wide X hP dX12_study_383 ?_
      refine lv_iload_n hx hb dX12_study_386 rfl (lv_at hl 1 rfl) ?_
      refine lv_aload_n hx hb dX12_study_387 rfl (lv_at hl 0 rfl) ?_
      refine mg_hh X hP dX12_study_388 ?_
      refine lv_iload_n hx hb dX12_study_391 rfl (lv_at hl 1 rfl) ?_
      obtain ⟨v4, hv4, h⟩ := ob h
      refine m_ald X hP hv4 dX12_study_392 ?_
      refine lv_iconst (v := (1:Int32)) hx hb dX12_study_393 (by decide) ?_
      refine lv_icmp_eq (tgt := 406) hx hb dX12_study_394 rfl (fun hc => ?_) (fun hc => ?_)
      · have h := ip hc h
        exact N_study_406 X hP hF (lv_sub hl [0, 4] rfl) h
      · have h := ine hc h
        refine lv_aload_n hx hb dX12_study_397 rfl (lv_at hl 0 rfl) ?_
        refine mg_hp X hP dX12_study_398 ?_
        refine lv_iload_n hx hb dX12_study_401 rfl (lv_at hl 1 rfl) ?_
        obtain ⟨v5, hv5, h⟩ := ob h
        refine m_ald X hP hv5 dX12_study_402 ?_
        refine lv_if_lt (tgt := 411) hx hb dX12_study_403 rfl (fun hc => ?_) (fun hc => ?_)
        · have h := ip hc h
          refine lv_iload_n hx hb dX12_study_411 rfl (lv_at hl 3 rfl) ?_
          exact N_study_412 X hP hF (lv_sub hl [0] rfl) h
        · have h := ine hc h
          exact N_study_406 X hP hF (lv_sub hl [0, 4] rfl) h
    · have h := ine hc h
      refine lv_iload hx hb dX12_study_21 (lv_at hl 5 rfl) ?_
      refine lv_aload_n hx hb dX12_study_23 rfl (lv_at hl 0 rfl) ?_
      refine mg_nc X hP dX12_study_24 ?_
      refine lv_iload_n hx hb dX12_study_27 rfl (lv_at hl 1 rfl) ?_
      obtain ⟨v6, hv6, h⟩ := ob h
      refine m_ald X hP hv6 dX12_study_28 ?_
      refine lv_iconst (v := (1:Int32)) hx hb dX12_study_29 (by decide) ?_
      refine lv_isub hx hb dX12_study_30 ?_
      refine lv_icmp_ne (tgt := 38) hx hb dX12_study_31 rfl (fun hc => ?_) (fun hc => ?_)
      · have h := ine hc h
        refine lv_iconst (v := (0:Int32)) hx hb dX12_study_38 (by decide) ?_
        exact N_study_39 X hP hF ih (lv_sub hl [0, 1, 2, 3, 4, 5] rfl) h
      · have h := ip hc h
        refine lv_iconst (v := (1:Int32)) hx hb dX12_study_34 (by decide) ?_
        refine lv_goto (tgt := 39) hx hb dX12_study_35 rfl ?_
        exact N_study_39 X hP hF ih (lv_sub hl [0, 1, 2, 3, 4, 5] rfl) h
set_option maxRecDepth 20000 in
set_option maxHeartbeats 4000000 in
theorem K_study (l : Launch) (D : mD) (mb : Nat) (σ : mS) (x1 : Int32) {q : mS} (h : f_study x1 σ = some q) : Met l yX12_study (Cond.code yX12_study cX12_study 14 none :: BG) (rM 1 21) (mPc D mb σ [.int x1]) (mQw D mb q none) 0 0 (mReg mb) := by
  refine Met.ofW (cc := cX12_study) (maxL := 14) (ret := none) (by decide) rfl ?_
  intro p e s m args below meth c s₁ B hml hv
  obtain ⟨rfl, hP, hK⟩ := hv
  have X := mX_of B hml rfl hK
  have hx := X.1
  have hb := X.2.1
  have hown := X.2.2.2.1
  have hts := X.2.2.2.2.1
  have hl := lv_entry (.ref mb :: [.int x1]) (n := 14) (Nat.le_of_ble_eq_true rfl)
  rw [lg_entry_eq]
  generalize (lg_sl (.ref mb :: [.int x1]) ++ List.replicate (14 - (lg_sl (.ref mb :: [.int x1])).length) Slot.unset).toArray = ls at hl ⊢
  have hl : lv_has ls 14 [(0, .ref mb), (1, .int x1)] := hl
  have hF : mF mb s.heap s.heap [] := mF.rf
  show mWw p l e 1 21 s m (Value.ref mb :: [.int x1]).toArray below meth c D mb q none s.heap [] (F0 m 0 ls [])
  have h : (f_study_10 4000 (x1) ((0:Int32)) ((0:Int32)) ((0:Int32)) ((0:Int32)) σ) = some q := h
  refine lv_iconst (v := (0:Int32)) hx hb dX12_study_0 (by decide) ?_
  refine lv_istore_n hx hb dX12_study_1 rfl hl (Nat.le_of_ble_eq_true rfl) rfl (fun ls (hl : lv_has ls 14 [(2, .int (0:Int32)), (0, .ref mb), (1, .int x1)]) => ?_)
  refine lv_iconst (v := (0:Int32)) hx hb dX12_study_2 (by decide) ?_
  refine lv_istore_n hx hb dX12_study_3 rfl hl (Nat.le_of_ble_eq_true rfl) rfl (fun ls (hl : lv_has ls 14 [(3, .int (0:Int32)), (2, .int (0:Int32)), (0, .ref mb), (1, .int x1)]) => ?_)
  refine lv_iconst (v := (0:Int32)) hx hb dX12_study_4 (by decide) ?_
  refine lv_istore hx hb dX12_study_5 hl (Nat.le_of_ble_eq_true rfl) rfl (fun ls (hl : lv_has ls 14 [(4, .int (0:Int32)), (3, .int (0:Int32)), (2, .int (0:Int32)), (0, .ref mb), (1, .int x1)]) => ?_)
  refine lv_iconst (v := (0:Int32)) hx hb dX12_study_7 (by decide) ?_
  refine lv_istore hx hb dX12_study_8 hl (Nat.le_of_ble_eq_true rfl) rfl (fun ls (hl : lv_has ls 14 [(5, .int (0:Int32)), (4, .int (0:Int32)), (3, .int (0:Int32)), (2, .int (0:Int32)), (0, .ref mb), (1, .int x1)]) => ?_)
  exact N_study_10 X hP hF (lv_sub hl [4, 5, 3, 2, 1, 0] rfl) h
theorem cl_study {p : Program} {l : Launch} {e : Env} {s : State} {m : MethodId} {args : Array Value} {below : List Frame} {meth : Method} {c : Code} {D : mD} {mb : Nat} {H : Heap} {locs : List Loc} {Q : State → Prop} {cc : ByteArray} {pc fR lR nL : Nat} {ls : Array Slot} {rest : List Value} {ret : Option FieldType} {σ : mS} (X : mX p s m args meth c cc nL ret D) (hP : mP D mb σ H) (hF : mF mb s.heap H locs) {x1 : Int32} {q : mS} (h : f_study x1 σ = some q) (hr : 1 + 1 ≤ fR ∧ 8 + (14 + 11) + 21 ≤ lR) (hl : ls.size = nL) (hW : (rest.map fun v => v.category).sum ≤ 8) (hdg : decode cc pc = .ok (.invokevirtual 531, 3)) (kk : ∀ (H1 : Heap) (locs1 : List Loc), mP D mb q H1 → mF mb s.heap H1 locs1 → W p l e (rM fR lR) s m args below meth c H1 locs1 0 0 Q (F0 m (pc + 3) ls rest)) : W p l e (rM fR lR) s m args below meth c H locs 0 0 Q (F0 m pc ls (.int x1 :: .ref mb :: rest)) := m_cv (m_run (n := 1) X (K_study l D mb σ x1 h) ⟨w_2002, w_2004, w_83, w_2005⟩ (hyX rfl (by decide +kernel)) rfl hr hP hl hW hdg rfl) hF kk
-- weigh(I)I
def f_weigh_68  (y0 : Int32) (σ : mS) : Option (Int32) := some y0
def f_weigh_17   (σ : mS) : Option (Int32) := f_weigh_68 ((1:Int32)) σ
def f_weigh_32  (x1 : Int32) (σ : mS) : Option (Int32) := (rd σ 18 x1).bind (fun v1 => (rd σ 20 v1).bind (fun v2 => f_weigh_68 (v2) σ))
def f_weigh (x1 : Int32) (σ : mS) : Option (Int32) := (rd σ 17 x1).bind (fun v1 => if v1 = (0:Int32) then (f_weigh_17 σ) else (if v1 = (9:Int32) then (f_weigh_17 σ) else (if v1 = (5:Int32) then (f_weigh_32 (x1) σ) else (if v1 = (6:Int32) then (f_weigh_32 (x1) σ) else (if v1 = (7:Int32) then ((rd σ 19 x1).bind (fun v2 => (rd σ 20 v2).bind (fun v3 => f_weigh_68 (v3) σ))) else (f_weigh_68 ((100:Int32)) σ))))))
set_option maxRecDepth 20000 in
set_option maxHeartbeats 4000000 in
theorem N_weigh_68 {p : Program} {l : Launch} {e : Env} {s : State} {m : MethodId} {args : Array Value} {below : List Frame} {meth : Method} {c : Code} {D : mD} {mb : Nat}   {y0 : Int32} {σ : mS} {ls : Array Slot} {r : Int32} (X : mX p s m args meth c cX12_weigh 3 (some .int) D) (hP : mP D mb σ s.heap)  (hl : lv_has ls 3 [(0, .ref mb)]) (h : f_weigh_68  y0 σ = some r) : mWr p l e 0 0 s m args below meth c (some (.int r)) (F0 m 68 ls [.int y0]) := by
  have hx := X.1
  have hb := X.2.1
  have hown := X.2.2.2.1
  have hts := X.2.2.2.2.1
  have h : (some y0) = some r := h
  obtain rfl := sj h
  exact m_ri X dX12_weigh_68
set_option maxRecDepth 20000 in
set_option maxHeartbeats 4000000 in
theorem N_weigh_17 {p : Program} {l : Launch} {e : Env} {s : State} {m : MethodId} {args : Array Value} {below : List Frame} {meth : Method} {c : Code} {D : mD} {mb : Nat}    {σ : mS} {ls : Array Slot} {r : Int32} (X : mX p s m args meth c cX12_weigh 3 (some .int) D) (hP : mP D mb σ s.heap)  (hl : lv_has ls 3 [(0, .ref mb)]) (h : f_weigh_17   σ = some r) : mWr p l e 0 0 s m args below meth c (some (.int r)) (F0 m 17 ls []) := by
  have hx := X.1
  have hb := X.2.1
  have hown := X.2.2.2.1
  have hts := X.2.2.2.2.1
  have h : (f_weigh_68 ((1:Int32)) σ) = some r := h
  refine lv_iconst (v := (1:Int32)) hx hb dX12_weigh_17 (by decide) ?_
  refine lv_goto (tgt := 68) hx hb dX12_weigh_18 rfl ?_
  exact N_weigh_68 X hP (lv_sub hl [0] rfl) h
set_option maxRecDepth 20000 in
set_option maxHeartbeats 4000000 in
theorem N_weigh_32 {p : Program} {l : Launch} {e : Env} {s : State} {m : MethodId} {args : Array Value} {below : List Frame} {meth : Method} {c : Code} {D : mD} {mb : Nat}   {x1 : Int32} {σ : mS} {ls : Array Slot} {r : Int32} (X : mX p s m args meth c cX12_weigh 3 (some .int) D) (hP : mP D mb σ s.heap)  (hl : lv_has ls 3 [(0, .ref mb), (1, .int x1)]) (h : f_weigh_32  x1 σ = some r) : mWr p l e 0 0 s m args below meth c (some (.int r)) (F0 m 32 ls []) := by
  have hx := X.1
  have hb := X.2.1
  have hown := X.2.2.2.1
  have hts := X.2.2.2.2.1
  have h : ((rd σ 18 x1).bind (fun v1 => (rd σ 20 v1).bind (fun v2 => f_weigh_68 (v2) σ))) = some r := h
  refine lv_aload_n hx hb dX12_weigh_32 rfl (lv_at hl 0 rfl) ?_
  refine mg_wt X hP dX12_weigh_33 ?_
  refine lv_aload_n hx hb dX12_weigh_36 rfl (lv_at hl 0 rfl) ?_
  refine mg_ta X hP dX12_weigh_37 ?_
  refine lv_iload_n hx hb dX12_weigh_40 rfl (lv_at hl 1 rfl) ?_
  obtain ⟨v1, hv1, h⟩ := ob h
  refine m_ald X hP hv1 dX12_weigh_41 ?_
  obtain ⟨v2, hv2, h⟩ := ob h
  refine m_ald X hP hv2 dX12_weigh_42 ?_
  refine lv_goto (tgt := 68) hx hb dX12_weigh_43 rfl ?_
  exact N_weigh_68 X hP (lv_sub hl [0] rfl) h
set_option maxRecDepth 20000 in
set_option maxHeartbeats 4000000 in
theorem K_weigh (l : Launch) (D : mD) (mb : Nat) (σ : mS) (x1 : Int32) {r : Int32} (h : f_weigh x1 σ = some r) : Met l yX12_weigh (Cond.code yX12_weigh cX12_weigh 3 (some .int) :: BG) (rM 0 0) (mPc D mb σ [.int x1]) (mQr (some (.int r))) 0 0 (fun _ => False) := by
  refine Met.ofW (cc := cX12_weigh) (maxL := 3) (ret := (some .int)) (by decide) rfl ?_
  intro p e s m args below meth c s₁ B hml hv
  obtain ⟨rfl, hP, hK⟩ := hv
  have X := mX_of B hml rfl hK
  have hx := X.1
  have hb := X.2.1
  have hown := X.2.2.2.1
  have hts := X.2.2.2.2.1
  have hl := lv_entry (.ref mb :: [.int x1]) (n := 3) (Nat.le_of_ble_eq_true rfl)
  rw [lg_entry_eq]
  generalize (lg_sl (.ref mb :: [.int x1]) ++ List.replicate (3 - (lg_sl (.ref mb :: [.int x1])).length) Slot.unset).toArray = ls at hl ⊢
  have hl : lv_has ls 3 [(0, .ref mb), (1, .int x1)] := hl
  show mWr p l e 0 0 s m (Value.ref mb :: [.int x1]).toArray below meth c (some (.int r)) (F0 m 0 ls [])
  have h : ((rd σ 17 x1).bind (fun v1 => if v1 = (0:Int32) then (f_weigh_17 σ) else (if v1 = (9:Int32) then (f_weigh_17 σ) else (if v1 = (5:Int32) then (f_weigh_32 (x1) σ) else (if v1 = (6:Int32) then (f_weigh_32 (x1) σ) else (if v1 = (7:Int32) then ((rd σ 19 x1).bind (fun v2 => (rd σ 20 v2).bind (fun v3 => f_weigh_68 (v3) σ))) else (f_weigh_68 ((100:Int32)) σ))))))) = some r := h
  refine lv_aload_n hx hb dX12_weigh_0 rfl (lv_at hl 0 rfl) ?_
  refine mg_tk X hP dX12_weigh_1 ?_
  refine lv_iload_n hx hb dX12_weigh_4 rfl (lv_at hl 1 rfl) ?_
  obtain ⟨v1, hv1, h⟩ := ob h
  refine m_ald X hP hv1 dX12_weigh_5 ?_
  refine lv_istore_n hx hb dX12_weigh_6 rfl hl (Nat.le_of_ble_eq_true rfl) rfl (fun ls (hl : lv_has ls 3 [(2, .int v1), (0, .ref mb), (1, .int x1)]) => ?_)
  refine lv_iload_n hx hb dX12_weigh_7 rfl (lv_at hl 0 rfl) ?_
  refine lv_if_eq (tgt := 17) hx hb dX12_weigh_8 rfl (fun hc => ?_) (fun hc => ?_)
  · have h := ip hc h
    exact N_weigh_17 X hP (lv_sub hl [1] rfl) h
  · have h := ine hc h
    refine lv_iload_n hx hb dX12_weigh_11 rfl (lv_at hl 0 rfl) ?_
    refine lv_bipush (v := (9:Int32)) hx hb dX12_weigh_12 (by decide) ?_
    refine lv_icmp_ne (tgt := 21) hx hb dX12_weigh_14 rfl (fun hc => ?_) (fun hc => ?_)
    · have h := ine hc h
      refine lv_iload_n hx hb dX12_weigh_21 rfl (lv_at hl 0 rfl) ?_
      refine lv_iconst (v := (5:Int32)) hx hb dX12_weigh_22 (by decide) ?_
      refine lv_icmp_eq (tgt := 32) hx hb dX12_weigh_23 rfl (fun hc => ?_) (fun hc => ?_)
      · have h := ip hc h
        exact N_weigh_32 X hP (lv_sub hl [1, 2] rfl) h
      · have h := ine hc h
        refine lv_iload_n hx hb dX12_weigh_26 rfl (lv_at hl 0 rfl) ?_
        refine lv_bipush (v := (6:Int32)) hx hb dX12_weigh_27 (by decide) ?_
        refine lv_icmp_ne (tgt := 46) hx hb dX12_weigh_29 rfl (fun hc => ?_) (fun hc => ?_)
        · have h := ine hc h
          refine lv_iload_n hx hb dX12_weigh_46 rfl (lv_at hl 0 rfl) ?_
          refine lv_bipush (v := (7:Int32)) hx hb dX12_weigh_47 (by decide) ?_
          refine lv_icmp_ne (tgt := 66) hx hb dX12_weigh_49 rfl (fun hc => ?_) (fun hc => ?_)
          · have h := ine hc h
            refine lv_bipush (v := (100:Int32)) hx hb dX12_weigh_66 (by decide) ?_
            exact N_weigh_68 X hP (lv_sub hl [1] rfl) h
          · have h := ip hc h
            refine lv_aload_n hx hb dX12_weigh_52 rfl (lv_at hl 1 rfl) ?_
            refine mg_wt X hP dX12_weigh_53 ?_
            refine lv_aload_n hx hb dX12_weigh_56 rfl (lv_at hl 1 rfl) ?_
            refine mg_tb X hP dX12_weigh_57 ?_
            refine lv_iload_n hx hb dX12_weigh_60 rfl (lv_at hl 2 rfl) ?_
            obtain ⟨v2, hv2, h⟩ := ob h
            refine m_ald X hP hv2 dX12_weigh_61 ?_
            obtain ⟨v3, hv3, h⟩ := ob h
            refine m_ald X hP hv3 dX12_weigh_62 ?_
            refine lv_goto (tgt := 68) hx hb dX12_weigh_63 rfl ?_
            exact N_weigh_68 X hP (lv_sub hl [1] rfl) h
        · have h := ip hc h
          exact N_weigh_32 X hP (lv_sub hl [1, 2] rfl) h
    · have h := ip hc h
      exact N_weigh_17 X hP (lv_sub hl [1] rfl) h
theorem cl_weigh {p : Program} {l : Launch} {e : Env} {s : State} {m : MethodId} {args : Array Value} {below : List Frame} {meth : Method} {c : Code} {D : mD} {mb : Nat} {H : Heap} {locs : List Loc} {Q : State → Prop} {cc : ByteArray} {pc fR lR nL : Nat} {ls : Array Slot} {rest : List Value} {ret : Option FieldType} {σ : mS} (X : mX p s m args meth c cc nL ret D) (hP : mP D mb σ H) {x1 : Int32} {r : Int32} (h : f_weigh x1 σ = some r) (hr : 0 + 1 ≤ fR ∧ 8 + (3 + 11) + 0 ≤ lR) (hl : ls.size = nL) (hW : (rest.map fun v => v.category).sum ≤ 8) (hdg : decode cc pc = .ok (.invokevirtual 528, 3)) (kk : W p l e (rM fR lR) s m args below meth c H locs 0 0 Q (F0 m (pc + 3) ls (.int r :: rest))) : W p l e (rM fR lR) s m args below meth c H locs 0 0 Q (F0 m pc ls (.int x1 :: .ref mb :: rest)) := m_cr (m_run (n := 1) X (K_weigh l D mb σ x1 h) ⟨w_1998, w_2000, w_82, w_2001⟩ (hyX rfl (by decide +kernel)) rfl hr hP hl hW hdg rfl) kk
-- originOf(I)I
def f_originOf_25  (y0 : Int32) (σ : mS) : Option (Int32) := some y0
def f_originOf (x1 : Int32) (σ : mS) : Option (Int32) := if (640:Int32) ≤ x1 then (f_originOf_25 ((2:Int32)) σ) else ((dv x1 (16:Int32)).bind (fun v1 => (rd σ 32 v1).bind (fun v2 => (rd σ 27 v2).bind (fun v3 => f_originOf_25 (v3) σ))))
set_option maxRecDepth 20000 in
set_option maxHeartbeats 4000000 in
theorem N_originOf_25 {p : Program} {l : Launch} {e : Env} {s : State} {m : MethodId} {args : Array Value} {below : List Frame} {meth : Method} {c : Code} {D : mD} {mb : Nat}   {y0 : Int32} {σ : mS} {ls : Array Slot} {r : Int32} (X : mX p s m args meth c cX12_originOf 2 (some .int) D) (hP : mP D mb σ s.heap)  (hl : lv_has ls 2 [(0, .ref mb)]) (h : f_originOf_25  y0 σ = some r) : mWr p l e 0 0 s m args below meth c (some (.int r)) (F0 m 25 ls [.int y0]) := by
  have hx := X.1
  have hb := X.2.1
  have hown := X.2.2.2.1
  have hts := X.2.2.2.2.1
  have h : (some y0) = some r := h
  obtain rfl := sj h
  exact m_ri X dX12_originOf_25
set_option maxRecDepth 20000 in
set_option maxHeartbeats 4000000 in
theorem K_originOf (l : Launch) (D : mD) (mb : Nat) (σ : mS) (x1 : Int32) {r : Int32} (h : f_originOf x1 σ = some r) : Met l yX12_originOf (Cond.code yX12_originOf cX12_originOf 2 (some .int) :: BG) (rM 0 0) (mPc D mb σ [.int x1]) (mQr (some (.int r))) 0 0 (fun _ => False) := by
  refine Met.ofW (cc := cX12_originOf) (maxL := 2) (ret := (some .int)) (by decide) rfl ?_
  intro p e s m args below meth c s₁ B hml hv
  obtain ⟨rfl, hP, hK⟩ := hv
  have X := mX_of B hml rfl hK
  have hx := X.1
  have hb := X.2.1
  have hown := X.2.2.2.1
  have hts := X.2.2.2.2.1
  have hl := lv_entry (.ref mb :: [.int x1]) (n := 2) (Nat.le_of_ble_eq_true rfl)
  rw [lg_entry_eq]
  generalize (lg_sl (.ref mb :: [.int x1]) ++ List.replicate (2 - (lg_sl (.ref mb :: [.int x1])).length) Slot.unset).toArray = ls at hl ⊢
  have hl : lv_has ls 2 [(0, .ref mb), (1, .int x1)] := hl
  show mWr p l e 0 0 s m (Value.ref mb :: [.int x1]).toArray below meth c (some (.int r)) (F0 m 0 ls [])
  have h : (if (640:Int32) ≤ x1 then (f_originOf_25 ((2:Int32)) σ) else ((dv x1 (16:Int32)).bind (fun v1 => (rd σ 32 v1).bind (fun v2 => (rd σ 27 v2).bind (fun v3 => f_originOf_25 (v3) σ))))) = some r := h
  refine lv_iload_n hx hb dX12_originOf_0 rfl (lv_at hl 1 rfl) ?_
  refine lv_sipush (v := (640:Int32)) hx hb dX12_originOf_1 (by decide) ?_
  refine lv_icmp_ge (tgt := 24) hx hb dX12_originOf_4 rfl (fun hc => ?_) (fun hc => ?_)
  · have h := ip hc h
    refine lv_iconst (v := (2:Int32)) hx hb dX12_originOf_24 (by decide) ?_
    exact N_originOf_25 X hP (lv_sub hl [0] rfl) h
  · have h := ine hc h
    refine lv_aload_n hx hb dX12_originOf_7 rfl (lv_at hl 0 rfl) ?_
    refine mg_so X hP dX12_originOf_8 ?_
    refine lv_aload_n hx hb dX12_originOf_11 rfl (lv_at hl 0 rfl) ?_
    refine mg_rs X hP dX12_originOf_12 ?_
    refine lv_iload_n hx hb dX12_originOf_15 rfl (lv_at hl 1 rfl) ?_
    refine lv_bipush (v := (16:Int32)) hx hb dX12_originOf_16 (by decide) ?_
    obtain ⟨v1, hv1, h⟩ := ob h
    obtain ⟨hnv1, hev1⟩ := dv_spec hv1
    refine lv_idiv hx hb dX12_originOf_18 hnv1 ?_
    rw [hev1]
    obtain ⟨v2, hv2, h⟩ := ob h
    refine m_ald X hP hv2 dX12_originOf_19 ?_
    obtain ⟨v3, hv3, h⟩ := ob h
    refine m_ald X hP hv3 dX12_originOf_20 ?_
    refine lv_goto (tgt := 25) hx hb dX12_originOf_21 rfl ?_
    exact N_originOf_25 X hP (lv_sub hl [0] rfl) h
theorem cl_originOf {p : Program} {l : Launch} {e : Env} {s : State} {m : MethodId} {args : Array Value} {below : List Frame} {meth : Method} {c : Code} {D : mD} {mb : Nat} {H : Heap} {locs : List Loc} {Q : State → Prop} {cc : ByteArray} {pc fR lR nL : Nat} {ls : Array Slot} {rest : List Value} {ret : Option FieldType} {σ : mS} (X : mX p s m args meth c cc nL ret D) (hP : mP D mb σ H) {x1 : Int32} {r : Int32} (h : f_originOf x1 σ = some r) (hr : 0 + 1 ≤ fR ∧ 8 + (2 + 11) + 0 ≤ lR) (hl : ls.size = nL) (hW : (rest.map fun v => v.category).sum ≤ 8) (hdg : decode cc pc = .ok (.invokevirtual 332, 3)) (kk : W p l e (rM fR lR) s m args below meth c H locs 0 0 Q (F0 m (pc + 3) ls (.int r :: rest))) : W p l e (rM fR lR) s m args below meth c H locs 0 0 Q (F0 m pc ls (.int x1 :: .ref mb :: rest)) := m_cr (m_run (n := 1) X (K_originOf l D mb σ x1 h) ⟨w_2196, w_2198, w_119, w_2199⟩ (hyX rfl (by decide +kernel)) rfl hr hP hl hW hdg rfl) kk
-- rank(I)I
def f_rank_25  (y0 : Int32) (σ : mS) : Option (Int32) := some y0
def f_rank (x1 : Int32) (σ : mS) : Option (Int32) := (rd σ 39 x1).bind (fun v1 => if v1 = (1:Int32) then ((f_originOf (x1) σ).bind (fun v3 => f_rank_25 (((5:Int32) - v3)) σ)) else ((f_originOf (x1) σ).bind (fun v2 => f_rank_25 (v2) σ)))
set_option maxRecDepth 20000 in
set_option maxHeartbeats 4000000 in
theorem N_rank_25 {p : Program} {l : Launch} {e : Env} {s : State} {m : MethodId} {args : Array Value} {below : List Frame} {meth : Method} {c : Code} {D : mD} {mb : Nat}   {y0 : Int32} {σ : mS} {ls : Array Slot} {r : Int32} (X : mX p s m args meth c cX12_rank 2 (some .int) D) (hP : mP D mb σ s.heap)  (hl : lv_has ls 2 [(0, .ref mb)]) (h : f_rank_25  y0 σ = some r) : mWr p l e 1 21 s m args below meth c (some (.int r)) (F0 m 25 ls [.int y0]) := by
  have hx := X.1
  have hb := X.2.1
  have hown := X.2.2.2.1
  have hts := X.2.2.2.2.1
  have h : (some y0) = some r := h
  obtain rfl := sj h
  exact m_ri X dX12_rank_25
set_option maxRecDepth 20000 in
set_option maxHeartbeats 4000000 in
theorem K_rank (l : Launch) (D : mD) (mb : Nat) (σ : mS) (x1 : Int32) {r : Int32} (h : f_rank x1 σ = some r) : Met l yX12_rank (Cond.code yX12_rank cX12_rank 2 (some .int) :: BG) (rM 1 21) (mPc D mb σ [.int x1]) (mQr (some (.int r))) 0 0 (fun _ => False) := by
  refine Met.ofW (cc := cX12_rank) (maxL := 2) (ret := (some .int)) (by decide) rfl ?_
  intro p e s m args below meth c s₁ B hml hv
  obtain ⟨rfl, hP, hK⟩ := hv
  have X := mX_of B hml rfl hK
  have hx := X.1
  have hb := X.2.1
  have hown := X.2.2.2.1
  have hts := X.2.2.2.2.1
  have hl := lv_entry (.ref mb :: [.int x1]) (n := 2) (Nat.le_of_ble_eq_true rfl)
  rw [lg_entry_eq]
  generalize (lg_sl (.ref mb :: [.int x1]) ++ List.replicate (2 - (lg_sl (.ref mb :: [.int x1])).length) Slot.unset).toArray = ls at hl ⊢
  have hl : lv_has ls 2 [(0, .ref mb), (1, .int x1)] := hl
  show mWr p l e 1 21 s m (Value.ref mb :: [.int x1]).toArray below meth c (some (.int r)) (F0 m 0 ls [])
  have h : ((rd σ 39 x1).bind (fun v1 => if v1 = (1:Int32) then ((f_originOf (x1) σ).bind (fun v3 => f_rank_25 (((5:Int32) - v3)) σ)) else ((f_originOf (x1) σ).bind (fun v2 => f_rank_25 (v2) σ)))) = some r := h
  refine lv_aload_n hx hb dX12_rank_0 rfl (lv_at hl 0 rfl) ?_
  refine mg_di X hP dX12_rank_1 ?_
  refine lv_iload_n hx hb dX12_rank_4 rfl (lv_at hl 1 rfl) ?_
  obtain ⟨v1, hv1, h⟩ := ob h
  refine m_ald X hP hv1 dX12_rank_5 ?_
  refine lv_iconst (v := (1:Int32)) hx hb dX12_rank_6 (by decide) ?_
  refine lv_icmp_ne (tgt := 20) hx hb dX12_rank_7 rfl (fun hc => ?_) (fun hc => ?_)
  · have h := ine hc h
    refine lv_aload_n hx hb dX12_rank_20 rfl (lv_at hl 0 rfl) ?_
    refine lv_iload_n hx hb dX12_rank_21 rfl (lv_at hl 1 rfl) ?_
    obtain ⟨v2, hv2, h⟩ := ob h
    refine cl_originOf X hP hv2 ⟨Nat.le_of_ble_eq_true rfl, Nat.le_of_ble_eq_true rfl⟩ hl.1 (Nat.le_of_ble_eq_true rfl) dX12_rank_22 ?_
    exact N_rank_25 X hP (lv_sub hl [0] rfl) h
  · have h := ip hc h
    refine lv_iconst (v := (5:Int32)) hx hb dX12_rank_10 (by decide) ?_
    refine lv_aload_n hx hb dX12_rank_11 rfl (lv_at hl 0 rfl) ?_
    refine lv_iload_n hx hb dX12_rank_12 rfl (lv_at hl 1 rfl) ?_
    obtain ⟨v3, hv3, h⟩ := ob h
    refine cl_originOf X hP hv3 ⟨Nat.le_of_ble_eq_true rfl, Nat.le_of_ble_eq_true rfl⟩ hl.1 (Nat.le_of_ble_eq_true rfl) dX12_rank_13 ?_
    refine lv_isub hx hb dX12_rank_16 ?_
    refine lv_goto (tgt := 25) hx hb dX12_rank_17 rfl ?_
    exact N_rank_25 X hP (lv_sub hl [0] rfl) h
theorem cl_rank {p : Program} {l : Launch} {e : Env} {s : State} {m : MethodId} {args : Array Value} {below : List Frame} {meth : Method} {c : Code} {D : mD} {mb : Nat} {H : Heap} {locs : List Loc} {Q : State → Prop} {cc : ByteArray} {pc fR lR nL : Nat} {ls : Array Slot} {rest : List Value} {ret : Option FieldType} {σ : mS} (X : mX p s m args meth c cc nL ret D) (hP : mP D mb σ H) {x1 : Int32} {r : Int32} (h : f_rank x1 σ = some r) (hr : 1 + 1 ≤ fR ∧ 8 + (2 + 11) + 21 ≤ lR) (hl : ls.size = nL) (hW : (rest.map fun v => v.category).sum ≤ 8) (hdg : decode cc pc = .ok (.invokevirtual 338, 3)) (kk : W p l e (rM fR lR) s m args below meth c H locs 0 0 Q (F0 m (pc + 3) ls (.int r :: rest))) : W p l e (rM fR lR) s m args below meth c H locs 0 0 Q (F0 m pc ls (.int x1 :: .ref mb :: rest)) := m_cr (m_run (n := 1) X (K_rank l D mb σ x1 h) ⟨w_2216, w_2218, w_124, w_2219⟩ (hyX rfl (by decide +kernel)) rfl hr hP hl hW hdg rfl) kk
-- depthOf(I)I
def f_depthOf_36  (y1 : Int32) (σ : mS) : Option (Int32) := (f_depth (y1) σ).bind (fun v1 => some v1)
def f_depthOf (x1 : Int32) (σ : mS) : Option (Int32) := if (640:Int32) ≤ x1 then ((dv x1 (16:Int32)).bind (fun v1 => (f_treeOf ((v1 - (40:Int32))) σ).bind (fun v2 => f_depthOf_36 (v2) σ))) else ((dv x1 (16:Int32)).bind (fun v3 => (rd σ 32 v3).bind (fun v4 => (rd σ 28 v4).bind (fun v5 => f_depthOf_36 (v5) σ))))
set_option maxRecDepth 20000 in
set_option maxHeartbeats 4000000 in
theorem N_depthOf_36 {p : Program} {l : Launch} {e : Env} {s : State} {m : MethodId} {args : Array Value} {below : List Frame} {meth : Method} {c : Code} {D : mD} {mb : Nat}   {y1 : Int32} {σ : mS} {ls : Array Slot} {r : Int32} (X : mX p s m args meth c cX12_depthOf 2 (some .int) D) (hP : mP D mb σ s.heap)  (hl : lv_has ls 2 [(0, .ref mb)]) (h : f_depthOf_36  y1 σ = some r) : mWr p l e 3 67 s m args below meth c (some (.int r)) (F0 m 36 ls [.int y1, .ref mb]) := by
  have hx := X.1
  have hb := X.2.1
  have hown := X.2.2.2.1
  have hts := X.2.2.2.2.1
  have h : ((f_depth (y1) σ).bind (fun v1 => some v1)) = some r := h
  obtain ⟨v1, hv1, h⟩ := ob h
  refine cl_depth X hP hv1 ⟨Nat.le_of_ble_eq_true rfl, Nat.le_of_ble_eq_true rfl⟩ hl.1 (Nat.le_of_ble_eq_true rfl) dX12_depthOf_36 ?_
  obtain rfl := sj h
  exact m_ri X dX12_depthOf_39
set_option maxRecDepth 20000 in
set_option maxHeartbeats 4000000 in
theorem K_depthOf (l : Launch) (D : mD) (mb : Nat) (σ : mS) (x1 : Int32) {r : Int32} (h : f_depthOf x1 σ = some r) : Met l yX12_depthOf (Cond.code yX12_depthOf cX12_depthOf 2 (some .int) :: BG) (rM 3 67) (mPc D mb σ [.int x1]) (mQr (some (.int r))) 0 0 (fun _ => False) := by
  refine Met.ofW (cc := cX12_depthOf) (maxL := 2) (ret := (some .int)) (by decide) rfl ?_
  intro p e s m args below meth c s₁ B hml hv
  obtain ⟨rfl, hP, hK⟩ := hv
  have X := mX_of B hml rfl hK
  have hx := X.1
  have hb := X.2.1
  have hown := X.2.2.2.1
  have hts := X.2.2.2.2.1
  have hl := lv_entry (.ref mb :: [.int x1]) (n := 2) (Nat.le_of_ble_eq_true rfl)
  rw [lg_entry_eq]
  generalize (lg_sl (.ref mb :: [.int x1]) ++ List.replicate (2 - (lg_sl (.ref mb :: [.int x1])).length) Slot.unset).toArray = ls at hl ⊢
  have hl : lv_has ls 2 [(0, .ref mb), (1, .int x1)] := hl
  show mWr p l e 3 67 s m (Value.ref mb :: [.int x1]).toArray below meth c (some (.int r)) (F0 m 0 ls [])
  have h : (if (640:Int32) ≤ x1 then ((dv x1 (16:Int32)).bind (fun v1 => (f_treeOf ((v1 - (40:Int32))) σ).bind (fun v2 => f_depthOf_36 (v2) σ))) else ((dv x1 (16:Int32)).bind (fun v3 => (rd σ 32 v3).bind (fun v4 => (rd σ 28 v4).bind (fun v5 => f_depthOf_36 (v5) σ))))) = some r := h
  refine lv_aload_n hx hb dX12_depthOf_0 rfl (lv_at hl 0 rfl) ?_
  refine lv_iload_n hx hb dX12_depthOf_1 rfl (lv_at hl 1 rfl) ?_
  refine lv_sipush (v := (640:Int32)) hx hb dX12_depthOf_2 (by decide) ?_
  refine lv_icmp_ge (tgt := 25) hx hb dX12_depthOf_5 rfl (fun hc => ?_) (fun hc => ?_)
  · have h := ip hc h
    refine lv_aload_n hx hb dX12_depthOf_25 rfl (lv_at hl 0 rfl) ?_
    refine lv_iload_n hx hb dX12_depthOf_26 rfl (lv_at hl 1 rfl) ?_
    refine lv_bipush (v := (16:Int32)) hx hb dX12_depthOf_27 (by decide) ?_
    obtain ⟨v1, hv1, h⟩ := ob h
    obtain ⟨hnv1, hev1⟩ := dv_spec hv1
    refine lv_idiv hx hb dX12_depthOf_29 hnv1 ?_
    rw [hev1]
    refine lv_bipush (v := (40:Int32)) hx hb dX12_depthOf_30 (by decide) ?_
    refine lv_isub hx hb dX12_depthOf_32 ?_
    obtain ⟨v2, hv2, h⟩ := ob h
    refine cl_treeOf X hP hv2 ⟨Nat.le_of_ble_eq_true rfl, Nat.le_of_ble_eq_true rfl⟩ hl.1 (Nat.le_of_ble_eq_true rfl) dX12_depthOf_33 ?_
    exact N_depthOf_36 X hP (lv_sub hl [0] rfl) h
  · have h := ine hc h
    refine lv_aload_n hx hb dX12_depthOf_8 rfl (lv_at hl 0 rfl) ?_
    refine mg_sh X hP dX12_depthOf_9 ?_
    refine lv_aload_n hx hb dX12_depthOf_12 rfl (lv_at hl 0 rfl) ?_
    refine mg_rs X hP dX12_depthOf_13 ?_
    refine lv_iload_n hx hb dX12_depthOf_16 rfl (lv_at hl 1 rfl) ?_
    refine lv_bipush (v := (16:Int32)) hx hb dX12_depthOf_17 (by decide) ?_
    obtain ⟨v3, hv3, h⟩ := ob h
    obtain ⟨hnv3, hev3⟩ := dv_spec hv3
    refine lv_idiv hx hb dX12_depthOf_19 hnv3 ?_
    rw [hev3]
    obtain ⟨v4, hv4, h⟩ := ob h
    refine m_ald X hP hv4 dX12_depthOf_20 ?_
    obtain ⟨v5, hv5, h⟩ := ob h
    refine m_ald X hP hv5 dX12_depthOf_21 ?_
    refine lv_goto (tgt := 36) hx hb dX12_depthOf_22 rfl ?_
    exact N_depthOf_36 X hP (lv_sub hl [0] rfl) h
theorem cl_depthOf {p : Program} {l : Launch} {e : Env} {s : State} {m : MethodId} {args : Array Value} {below : List Frame} {meth : Method} {c : Code} {D : mD} {mb : Nat} {H : Heap} {locs : List Loc} {Q : State → Prop} {cc : ByteArray} {pc fR lR nL : Nat} {ls : Array Slot} {rest : List Value} {ret : Option FieldType} {σ : mS} (X : mX p s m args meth c cc nL ret D) (hP : mP D mb σ H) {x1 : Int32} {r : Int32} (h : f_depthOf x1 σ = some r) (hr : 3 + 1 ≤ fR ∧ 8 + (2 + 11) + 67 ≤ lR) (hl : ls.size = nL) (hW : (rest.map fun v => v.category).sum ≤ 8) (hdg : decode cc pc = .ok (.invokevirtual 341, 3)) (kk : W p l e (rM fR lR) s m args below meth c H locs 0 0 Q (F0 m (pc + 3) ls (.int r :: rest))) : W p l e (rM fR lR) s m args below meth c H locs 0 0 Q (F0 m pc ls (.int x1 :: .ref mb :: rest)) := m_cr (m_run (n := 1) X (K_depthOf l D mb σ x1 h) ⟨w_2220, w_2222, w_125, w_2223⟩ (hyX rfl (by decide +kernel)) rfl hr hP hl hW hdg rfl) kk
-- layerOf(I)I
def f_layerOf_35  (y0 : Int32) (σ : mS) : Option (Int32) := some y0
def f_layerOf_25  (y0 : Int32) (σ : mS) : Option (Int32) := if (0:Int32) ≤ y0 then (f_layerOf_35 (y0) σ) else (f_layerOf_35 ((4:Int32)) σ)
def f_layerOf (x1 : Int32) (σ : mS) : Option (Int32) := if (640:Int32) ≤ x1 then (f_layerOf_25 (((-1):Int32)) σ) else ((dv x1 (16:Int32)).bind (fun v1 => (rd σ 32 v1).bind (fun v2 => (rd σ 29 v2).bind (fun v3 => f_layerOf_25 (v3) σ))))
set_option maxRecDepth 20000 in
set_option maxHeartbeats 4000000 in
theorem N_layerOf_35 {p : Program} {l : Launch} {e : Env} {s : State} {m : MethodId} {args : Array Value} {below : List Frame} {meth : Method} {c : Code} {D : mD} {mb : Nat}   {y0 : Int32} {σ : mS} {ls : Array Slot} {r : Int32} (X : mX p s m args meth c cX12_layerOf 3 (some .int) D) (hP : mP D mb σ s.heap)  (hl : lv_has ls 3 [(0, .ref mb)]) (h : f_layerOf_35  y0 σ = some r) : mWr p l e 0 0 s m args below meth c (some (.int r)) (F0 m 35 ls [.int y0]) := by
  have hx := X.1
  have hb := X.2.1
  have hown := X.2.2.2.1
  have hts := X.2.2.2.2.1
  have h : (some y0) = some r := h
  obtain rfl := sj h
  exact m_ri X dX12_layerOf_35
set_option maxRecDepth 20000 in
set_option maxHeartbeats 4000000 in
theorem N_layerOf_25 {p : Program} {l : Launch} {e : Env} {s : State} {m : MethodId} {args : Array Value} {below : List Frame} {meth : Method} {c : Code} {D : mD} {mb : Nat}   {y0 : Int32} {σ : mS} {ls : Array Slot} {r : Int32} (X : mX p s m args meth c cX12_layerOf 3 (some .int) D) (hP : mP D mb σ s.heap)  (hl : lv_has ls 3 [(0, .ref mb)]) (h : f_layerOf_25  y0 σ = some r) : mWr p l e 0 0 s m args below meth c (some (.int r)) (F0 m 25 ls [.int y0]) := by
  have hx := X.1
  have hb := X.2.1
  have hown := X.2.2.2.1
  have hts := X.2.2.2.2.1
  have h : (if (0:Int32) ≤ y0 then (f_layerOf_35 (y0) σ) else (f_layerOf_35 ((4:Int32)) σ)) = some r := h
  refine lv_istore_n hx hb dX12_layerOf_25 rfl hl (Nat.le_of_ble_eq_true rfl) rfl (fun ls (hl : lv_has ls 3 [(2, .int y0), (0, .ref mb)]) => ?_)
  refine lv_iload_n hx hb dX12_layerOf_26 rfl (lv_at hl 0 rfl) ?_
  refine lv_if_ge (tgt := 34) hx hb dX12_layerOf_27 rfl (fun hc => ?_) (fun hc => ?_)
  · have h := ip hc h
    refine lv_iload_n hx hb dX12_layerOf_34 rfl (lv_at hl 0 rfl) ?_
    exact N_layerOf_35 X hP (lv_sub hl [1] rfl) h
  · have h := ine hc h
    refine lv_iconst (v := (4:Int32)) hx hb dX12_layerOf_30 (by decide) ?_
    refine lv_goto (tgt := 35) hx hb dX12_layerOf_31 rfl ?_
    exact N_layerOf_35 X hP (lv_sub hl [1] rfl) h
set_option maxRecDepth 20000 in
set_option maxHeartbeats 4000000 in
theorem K_layerOf (l : Launch) (D : mD) (mb : Nat) (σ : mS) (x1 : Int32) {r : Int32} (h : f_layerOf x1 σ = some r) : Met l yX12_layerOf (Cond.code yX12_layerOf cX12_layerOf 3 (some .int) :: BG) (rM 0 0) (mPc D mb σ [.int x1]) (mQr (some (.int r))) 0 0 (fun _ => False) := by
  refine Met.ofW (cc := cX12_layerOf) (maxL := 3) (ret := (some .int)) (by decide) rfl ?_
  intro p e s m args below meth c s₁ B hml hv
  obtain ⟨rfl, hP, hK⟩ := hv
  have X := mX_of B hml rfl hK
  have hx := X.1
  have hb := X.2.1
  have hown := X.2.2.2.1
  have hts := X.2.2.2.2.1
  have hl := lv_entry (.ref mb :: [.int x1]) (n := 3) (Nat.le_of_ble_eq_true rfl)
  rw [lg_entry_eq]
  generalize (lg_sl (.ref mb :: [.int x1]) ++ List.replicate (3 - (lg_sl (.ref mb :: [.int x1])).length) Slot.unset).toArray = ls at hl ⊢
  have hl : lv_has ls 3 [(0, .ref mb), (1, .int x1)] := hl
  show mWr p l e 0 0 s m (Value.ref mb :: [.int x1]).toArray below meth c (some (.int r)) (F0 m 0 ls [])
  have h : (if (640:Int32) ≤ x1 then (f_layerOf_25 (((-1):Int32)) σ) else ((dv x1 (16:Int32)).bind (fun v1 => (rd σ 32 v1).bind (fun v2 => (rd σ 29 v2).bind (fun v3 => f_layerOf_25 (v3) σ))))) = some r := h
  refine lv_iload_n hx hb dX12_layerOf_0 rfl (lv_at hl 1 rfl) ?_
  refine lv_sipush (v := (640:Int32)) hx hb dX12_layerOf_1 (by decide) ?_
  refine lv_icmp_ge (tgt := 24) hx hb dX12_layerOf_4 rfl (fun hc => ?_) (fun hc => ?_)
  · have h := ip hc h
    refine lv_iconst (v := ((-1):Int32)) hx hb dX12_layerOf_24 (by decide) ?_
    exact N_layerOf_25 X hP (lv_sub hl [0] rfl) h
  · have h := ine hc h
    refine lv_aload_n hx hb dX12_layerOf_7 rfl (lv_at hl 0 rfl) ?_
    refine mg_sl X hP dX12_layerOf_8 ?_
    refine lv_aload_n hx hb dX12_layerOf_11 rfl (lv_at hl 0 rfl) ?_
    refine mg_rs X hP dX12_layerOf_12 ?_
    refine lv_iload_n hx hb dX12_layerOf_15 rfl (lv_at hl 1 rfl) ?_
    refine lv_bipush (v := (16:Int32)) hx hb dX12_layerOf_16 (by decide) ?_
    obtain ⟨v1, hv1, h⟩ := ob h
    obtain ⟨hnv1, hev1⟩ := dv_spec hv1
    refine lv_idiv hx hb dX12_layerOf_18 hnv1 ?_
    rw [hev1]
    obtain ⟨v2, hv2, h⟩ := ob h
    refine m_ald X hP hv2 dX12_layerOf_19 ?_
    obtain ⟨v3, hv3, h⟩ := ob h
    refine m_ald X hP hv3 dX12_layerOf_20 ?_
    refine lv_goto (tgt := 25) hx hb dX12_layerOf_21 rfl ?_
    exact N_layerOf_25 X hP (lv_sub hl [0] rfl) h
theorem cl_layerOf {p : Program} {l : Launch} {e : Env} {s : State} {m : MethodId} {args : Array Value} {below : List Frame} {meth : Method} {c : Code} {D : mD} {mb : Nat} {H : Heap} {locs : List Loc} {Q : State → Prop} {cc : ByteArray} {pc fR lR nL : Nat} {ls : Array Slot} {rest : List Value} {ret : Option FieldType} {σ : mS} (X : mX p s m args meth c cc nL ret D) (hP : mP D mb σ H) {x1 : Int32} {r : Int32} (h : f_layerOf x1 σ = some r) (hr : 0 + 1 ≤ fR ∧ 8 + (3 + 11) + 0 ≤ lR) (hl : ls.size = nL) (hW : (rest.map fun v => v.category).sum ≤ 8) (hdg : decode cc pc = .ok (.invokevirtual 344, 3)) (kk : W p l e (rM fR lR) s m args below meth c H locs 0 0 Q (F0 m (pc + 3) ls (.int r :: rest))) : W p l e (rM fR lR) s m args below meth c H locs 0 0 Q (F0 m pc ls (.int x1 :: .ref mb :: rest)) := m_cr (m_run (n := 1) X (K_layerOf l D mb σ x1 h) ⟨w_2228, w_2230, w_127, w_2231⟩ (hyX rfl (by decide +kernel)) rfl hr hP hl hW hdg rfl) kk
-- against(II)I
def f_against_110  (y0 : Int32) (σ : mS) : Option (Int32) := some y0
def f_against_97  (x1 : Int32) (σ : mS) : Option (Int32) := if x1 < (640:Int32) then (f_against_110 (((-3):Int32)) σ) else (f_against_110 ((3:Int32)) σ)
def f_against_267  (y0 : Int32) (σ : mS) : Option (Int32) := some y0
def f_against_260   (σ : mS) : Option (Int32) := f_against_267 ((6:Int32)) σ
def f_against_265   (σ : mS) : Option (Int32) := f_against_267 (((-6):Int32)) σ
def f_against_218  (y0 : Int32) (σ : mS) : Option (Int32) := some y0
def f_against_143  (x3 : Int32) (y0 : Int32) (σ : mS) : Option (Int32) := some (y0 * x3)
def f_against_80  (x3 : Int32) (y0 : Int32) (σ : mS) : Option (Int32) := some (y0 * x3)
def f_against_47  (y0 : Int32) (σ : mS) : Option (Int32) := some y0
def f_against_15  (x1 : Int32) (x2 : Int32) (y0 : Int32) (σ : mS) : Option (Int32) := (f_rank (x1) σ).bind (fun v1 => (f_rank (x2) σ).bind (fun v2 => if v1 = v2 then ((f_depthOf (x1) σ).bind (fun v3 => (f_depthOf (x2) σ).bind (fun v4 => if v3 = v4 then (if (640:Int32) ≤ x1 then (f_against_97 (x1) σ) else (if x2 < (640:Int32) then ((f_layerOf (x1) σ).bind (fun v5 => (f_layerOf (x2) σ).bind (fun v6 => if v5 = v6 then ((dv x1 (16:Int32)).bind (fun v7 => (dv x2 (16:Int32)).bind (fun v8 => (rd σ 33 v7).bind (fun v9 => (rd σ 20 v9).bind (fun v10 => (rd σ 33 v8).bind (fun v11 => (rd σ 20 v11).bind (fun v12 => if v10 = v12 then ((rd σ 32 v7).bind (fun v13 => (rd σ 32 v8).bind (fun v14 => if v14 < v13 then (f_against_260 σ) else ((rd σ 32 v7).bind (fun v15 => (rd σ 32 v8).bind (fun v16 => if v15 = v16 then (if v7 ≤ v8 then (f_against_265 σ) else (f_against_260 σ)) else (f_against_265 σ))))))) else ((rd σ 33 v7).bind (fun v17 => (rd σ 20 v17).bind (fun v18 => (rd σ 33 v8).bind (fun v19 => (rd σ 20 v19).bind (fun v20 => if v18 ≤ v20 then (f_against_218 (((-5):Int32)) σ) else (f_against_218 ((5:Int32)) σ))))))))))))) else ((f_layerOf (x1) σ).bind (fun v21 => (f_layerOf (x2) σ).bind (fun v22 => if v21 ≤ v22 then (f_against_143 (y0) (((-4):Int32)) σ) else (f_against_143 (y0) ((4:Int32)) σ))))))) else (f_against_97 (x1) σ))) else ((f_depthOf (x1) σ).bind (fun v23 => (f_depthOf (x2) σ).bind (fun v24 => if v24 ≤ v23 then (f_against_80 (y0) (((-2):Int32)) σ) else (f_against_80 (y0) ((2:Int32)) σ))))))) else ((f_rank (x1) σ).bind (fun v25 => (f_rank (x2) σ).bind (fun v26 => if v25 ≤ v26 then (f_against_47 (((-1):Int32)) σ) else (f_against_47 ((1:Int32)) σ))))))
def f_against (x1 : Int32) (x2 : Int32) (σ : mS) : Option (Int32) := (rd σ 39 x1).bind (fun v1 => if v1 = (1:Int32) then (f_against_15 (x1) (x2) (((-1):Int32)) σ) else (f_against_15 (x1) (x2) ((1:Int32)) σ))
set_option maxRecDepth 20000 in
set_option maxHeartbeats 4000000 in
theorem N_against_110 {p : Program} {l : Launch} {e : Env} {s : State} {m : MethodId} {args : Array Value} {below : List Frame} {meth : Method} {c : Code} {D : mD} {mb : Nat}   {y0 : Int32} {σ : mS} {ls : Array Slot} {r : Int32} (X : mX p s m args meth c cX12_against 6 (some .int) D) (hP : mP D mb σ s.heap)  (hl : lv_has ls 6 [(0, .ref mb)]) (h : f_against_110  y0 σ = some r) : mWr p l e 4 88 s m args below meth c (some (.int r)) (F0 m 110 ls [.int y0]) := by
  have hx := X.1
  have hb := X.2.1
  have hown := X.2.2.2.1
  have hts := X.2.2.2.2.1
  have h : (some y0) = some r := h
  obtain rfl := sj h
  exact m_ri X dX12_against_110
set_option maxRecDepth 20000 in
set_option maxHeartbeats 4000000 in
theorem N_against_97 {p : Program} {l : Launch} {e : Env} {s : State} {m : MethodId} {args : Array Value} {below : List Frame} {meth : Method} {c : Code} {D : mD} {mb : Nat}   {x1 : Int32} {σ : mS} {ls : Array Slot} {r : Int32} (X : mX p s m args meth c cX12_against 6 (some .int) D) (hP : mP D mb σ s.heap)  (hl : lv_has ls 6 [(0, .ref mb), (1, .int x1)]) (h : f_against_97  x1 σ = some r) : mWr p l e 4 88 s m args below meth c (some (.int r)) (F0 m 97 ls []) := by
  have hx := X.1
  have hb := X.2.1
  have hown := X.2.2.2.1
  have hts := X.2.2.2.2.1
  have h : (if x1 < (640:Int32) then (f_against_110 (((-3):Int32)) σ) else (f_against_110 ((3:Int32)) σ)) = some r := h
  refine lv_iload_n hx hb dX12_against_97 rfl (lv_at hl 1 rfl) ?_
  refine lv_sipush (v := (640:Int32)) hx hb dX12_against_98 (by decide) ?_
  refine lv_icmp_lt (tgt := 108) hx hb dX12_against_101 rfl (fun hc => ?_) (fun hc => ?_)
  · have h := ip hc h
    refine lv_bipush (v := ((-3):Int32)) hx hb dX12_against_108 (by decide) ?_
    exact N_against_110 X hP (lv_sub hl [0] rfl) h
  · have h := ine hc h
    refine lv_iconst (v := (3:Int32)) hx hb dX12_against_104 (by decide) ?_
    refine lv_goto (tgt := 110) hx hb dX12_against_105 rfl ?_
    exact N_against_110 X hP (lv_sub hl [0] rfl) h
set_option maxRecDepth 20000 in
set_option maxHeartbeats 4000000 in
theorem N_against_267 {p : Program} {l : Launch} {e : Env} {s : State} {m : MethodId} {args : Array Value} {below : List Frame} {meth : Method} {c : Code} {D : mD} {mb : Nat}   {y0 : Int32} {σ : mS} {ls : Array Slot} {r : Int32} (X : mX p s m args meth c cX12_against 6 (some .int) D) (hP : mP D mb σ s.heap)  (hl : lv_has ls 6 [(0, .ref mb)]) (h : f_against_267  y0 σ = some r) : mWr p l e 4 88 s m args below meth c (some (.int r)) (F0 m 267 ls [.int y0]) := by
  have hx := X.1
  have hb := X.2.1
  have hown := X.2.2.2.1
  have hts := X.2.2.2.2.1
  have h : (some y0) = some r := h
  obtain rfl := sj h
  exact m_ri X dX12_against_267
set_option maxRecDepth 20000 in
set_option maxHeartbeats 4000000 in
theorem N_against_260 {p : Program} {l : Launch} {e : Env} {s : State} {m : MethodId} {args : Array Value} {below : List Frame} {meth : Method} {c : Code} {D : mD} {mb : Nat}    {σ : mS} {ls : Array Slot} {r : Int32} (X : mX p s m args meth c cX12_against 6 (some .int) D) (hP : mP D mb σ s.heap)  (hl : lv_has ls 6 [(0, .ref mb)]) (h : f_against_260   σ = some r) : mWr p l e 4 88 s m args below meth c (some (.int r)) (F0 m 260 ls []) := by
  have hx := X.1
  have hb := X.2.1
  have hown := X.2.2.2.1
  have hts := X.2.2.2.2.1
  have h : (f_against_267 ((6:Int32)) σ) = some r := h
  refine lv_bipush (v := (6:Int32)) hx hb dX12_against_260 (by decide) ?_
  refine lv_goto (tgt := 267) hx hb dX12_against_262 rfl ?_
  exact N_against_267 X hP (lv_sub hl [0] rfl) h
set_option maxRecDepth 20000 in
set_option maxHeartbeats 4000000 in
theorem N_against_265 {p : Program} {l : Launch} {e : Env} {s : State} {m : MethodId} {args : Array Value} {below : List Frame} {meth : Method} {c : Code} {D : mD} {mb : Nat}    {σ : mS} {ls : Array Slot} {r : Int32} (X : mX p s m args meth c cX12_against 6 (some .int) D) (hP : mP D mb σ s.heap)  (hl : lv_has ls 6 [(0, .ref mb)]) (h : f_against_265   σ = some r) : mWr p l e 4 88 s m args below meth c (some (.int r)) (F0 m 265 ls []) := by
  have hx := X.1
  have hb := X.2.1
  have hown := X.2.2.2.1
  have hts := X.2.2.2.2.1
  have h : (f_against_267 (((-6):Int32)) σ) = some r := h
  refine lv_bipush (v := ((-6):Int32)) hx hb dX12_against_265 (by decide) ?_
  exact N_against_267 X hP (lv_sub hl [0] rfl) h
set_option maxRecDepth 20000 in
set_option maxHeartbeats 4000000 in
theorem N_against_218 {p : Program} {l : Launch} {e : Env} {s : State} {m : MethodId} {args : Array Value} {below : List Frame} {meth : Method} {c : Code} {D : mD} {mb : Nat}   {y0 : Int32} {σ : mS} {ls : Array Slot} {r : Int32} (X : mX p s m args meth c cX12_against 6 (some .int) D) (hP : mP D mb σ s.heap)  (hl : lv_has ls 6 [(0, .ref mb)]) (h : f_against_218  y0 σ = some r) : mWr p l e 4 88 s m args below meth c (some (.int r)) (F0 m 218 ls [.int y0]) := by
  have hx := X.1
  have hb := X.2.1
  have hown := X.2.2.2.1
  have hts := X.2.2.2.2.1
  have h : (some y0) = some r := h
  obtain rfl := sj h
  exact m_ri X dX12_against_218
set_option maxRecDepth 20000 in
set_option maxHeartbeats 4000000 in
theorem N_against_143 {p : Program} {l : Launch} {e : Env} {s : State} {m : MethodId} {args : Array Value} {below : List Frame} {meth : Method} {c : Code} {D : mD} {mb : Nat}   {x3 : Int32} {y0 : Int32} {σ : mS} {ls : Array Slot} {r : Int32} (X : mX p s m args meth c cX12_against 6 (some .int) D) (hP : mP D mb σ s.heap)  (hl : lv_has ls 6 [(0, .ref mb), (3, .int x3)]) (h : f_against_143  x3 y0 σ = some r) : mWr p l e 4 88 s m args below meth c (some (.int r)) (F0 m 143 ls [.int y0]) := by
  have hx := X.1
  have hb := X.2.1
  have hown := X.2.2.2.1
  have hts := X.2.2.2.2.1
  have h : (some (y0 * x3)) = some r := h
  refine lv_iload_n hx hb dX12_against_143 rfl (lv_at hl 1 rfl) ?_
  refine lv_imul hx hb dX12_against_144 ?_
  obtain rfl := sj h
  exact m_ri X dX12_against_145
set_option maxRecDepth 20000 in
set_option maxHeartbeats 4000000 in
theorem N_against_80 {p : Program} {l : Launch} {e : Env} {s : State} {m : MethodId} {args : Array Value} {below : List Frame} {meth : Method} {c : Code} {D : mD} {mb : Nat}   {x3 : Int32} {y0 : Int32} {σ : mS} {ls : Array Slot} {r : Int32} (X : mX p s m args meth c cX12_against 6 (some .int) D) (hP : mP D mb σ s.heap)  (hl : lv_has ls 6 [(0, .ref mb), (3, .int x3)]) (h : f_against_80  x3 y0 σ = some r) : mWr p l e 4 88 s m args below meth c (some (.int r)) (F0 m 80 ls [.int y0]) := by
  have hx := X.1
  have hb := X.2.1
  have hown := X.2.2.2.1
  have hts := X.2.2.2.2.1
  have h : (some (y0 * x3)) = some r := h
  refine lv_iload_n hx hb dX12_against_80 rfl (lv_at hl 1 rfl) ?_
  refine lv_imul hx hb dX12_against_81 ?_
  obtain rfl := sj h
  exact m_ri X dX12_against_82
set_option maxRecDepth 20000 in
set_option maxHeartbeats 4000000 in
theorem N_against_47 {p : Program} {l : Launch} {e : Env} {s : State} {m : MethodId} {args : Array Value} {below : List Frame} {meth : Method} {c : Code} {D : mD} {mb : Nat}   {y0 : Int32} {σ : mS} {ls : Array Slot} {r : Int32} (X : mX p s m args meth c cX12_against 6 (some .int) D) (hP : mP D mb σ s.heap)  (hl : lv_has ls 6 [(0, .ref mb)]) (h : f_against_47  y0 σ = some r) : mWr p l e 4 88 s m args below meth c (some (.int r)) (F0 m 47 ls [.int y0]) := by
  have hx := X.1
  have hb := X.2.1
  have hown := X.2.2.2.1
  have hts := X.2.2.2.2.1
  have h : (some y0) = some r := h
  obtain rfl := sj h
  exact m_ri X dX12_against_47
set_option maxRecDepth 20000 in
set_option maxHeartbeats 4000000 in
theorem N_against_15 {p : Program} {l : Launch} {e : Env} {s : State} {m : MethodId} {args : Array Value} {below : List Frame} {meth : Method} {c : Code} {D : mD} {mb : Nat}   {x1 : Int32} {x2 : Int32} {y0 : Int32} {σ : mS} {ls : Array Slot} {r : Int32} (X : mX p s m args meth c cX12_against 6 (some .int) D) (hP : mP D mb σ s.heap)  (hl : lv_has ls 6 [(0, .ref mb), (1, .int x1), (2, .int x2)]) (h : f_against_15  x1 x2 y0 σ = some r) : mWr p l e 4 88 s m args below meth c (some (.int r)) (F0 m 15 ls [.int y0]) := by
  have hx := X.1
  have hb := X.2.1
  have hown := X.2.2.2.1
  have hts := X.2.2.2.2.1
  have h : ((f_rank (x1) σ).bind (fun v1 => (f_rank (x2) σ).bind (fun v2 => if v1 = v2 then ((f_depthOf (x1) σ).bind (fun v3 => (f_depthOf (x2) σ).bind (fun v4 => if v3 = v4 then (if (640:Int32) ≤ x1 then (f_against_97 (x1) σ) else (if x2 < (640:Int32) then ((f_layerOf (x1) σ).bind (fun v5 => (f_layerOf (x2) σ).bind (fun v6 => if v5 = v6 then ((dv x1 (16:Int32)).bind (fun v7 => (dv x2 (16:Int32)).bind (fun v8 => (rd σ 33 v7).bind (fun v9 => (rd σ 20 v9).bind (fun v10 => (rd σ 33 v8).bind (fun v11 => (rd σ 20 v11).bind (fun v12 => if v10 = v12 then ((rd σ 32 v7).bind (fun v13 => (rd σ 32 v8).bind (fun v14 => if v14 < v13 then (f_against_260 σ) else ((rd σ 32 v7).bind (fun v15 => (rd σ 32 v8).bind (fun v16 => if v15 = v16 then (if v7 ≤ v8 then (f_against_265 σ) else (f_against_260 σ)) else (f_against_265 σ))))))) else ((rd σ 33 v7).bind (fun v17 => (rd σ 20 v17).bind (fun v18 => (rd σ 33 v8).bind (fun v19 => (rd σ 20 v19).bind (fun v20 => if v18 ≤ v20 then (f_against_218 (((-5):Int32)) σ) else (f_against_218 ((5:Int32)) σ))))))))))))) else ((f_layerOf (x1) σ).bind (fun v21 => (f_layerOf (x2) σ).bind (fun v22 => if v21 ≤ v22 then (f_against_143 (y0) (((-4):Int32)) σ) else (f_against_143 (y0) ((4:Int32)) σ))))))) else (f_against_97 (x1) σ))) else ((f_depthOf (x1) σ).bind (fun v23 => (f_depthOf (x2) σ).bind (fun v24 => if v24 ≤ v23 then (f_against_80 (y0) (((-2):Int32)) σ) else (f_against_80 (y0) ((2:Int32)) σ))))))) else ((f_rank (x1) σ).bind (fun v25 => (f_rank (x2) σ).bind (fun v26 => if v25 ≤ v26 then (f_against_47 (((-1):Int32)) σ) else (f_against_47 ((1:Int32)) σ))))))) = some r := h
  refine lv_istore_n hx hb dX12_against_15 rfl hl (Nat.le_of_ble_eq_true rfl) rfl (fun ls (hl : lv_has ls 6 [(3, .int y0), (0, .ref mb), (1, .int x1), (2, .int x2)]) => ?_)
  refine lv_aload_n hx hb dX12_against_16 rfl (lv_at hl 1 rfl) ?_
  refine lv_iload_n hx hb dX12_against_17 rfl (lv_at hl 2 rfl) ?_
  obtain ⟨v1, hv1, h⟩ := ob h
  refine cl_rank X hP hv1 ⟨Nat.le_of_ble_eq_true rfl, Nat.le_of_ble_eq_true rfl⟩ hl.1 (Nat.le_of_ble_eq_true rfl) dX12_against_18 ?_
  refine lv_aload_n hx hb dX12_against_21 rfl (lv_at hl 1 rfl) ?_
  refine lv_iload_n hx hb dX12_against_22 rfl (lv_at hl 3 rfl) ?_
  obtain ⟨v2, hv2, h⟩ := ob h
  refine cl_rank X hP hv2 ⟨Nat.le_of_ble_eq_true rfl, Nat.le_of_ble_eq_true rfl⟩ hl.1 (Nat.le_of_ble_eq_true rfl) dX12_against_23 ?_
  refine lv_icmp_eq (tgt := 48) hx hb dX12_against_26 rfl (fun hc => ?_) (fun hc => ?_)
  · have h := ip hc h
    refine lv_aload_n hx hb dX12_against_48 rfl (lv_at hl 1 rfl) ?_
    refine lv_iload_n hx hb dX12_against_49 rfl (lv_at hl 2 rfl) ?_
    obtain ⟨v3, hv3, h⟩ := ob h
    refine cl_depthOf X hP hv3 ⟨Nat.le_of_ble_eq_true rfl, Nat.le_of_ble_eq_true rfl⟩ hl.1 (Nat.le_of_ble_eq_true rfl) dX12_against_50 ?_
    refine lv_aload_n hx hb dX12_against_53 rfl (lv_at hl 1 rfl) ?_
    refine lv_iload_n hx hb dX12_against_54 rfl (lv_at hl 3 rfl) ?_
    obtain ⟨v4, hv4, h⟩ := ob h
    refine cl_depthOf X hP hv4 ⟨Nat.le_of_ble_eq_true rfl, Nat.le_of_ble_eq_true rfl⟩ hl.1 (Nat.le_of_ble_eq_true rfl) dX12_against_55 ?_
    refine lv_icmp_eq (tgt := 83) hx hb dX12_against_58 rfl (fun hc => ?_) (fun hc => ?_)
    · have h := ip hc h
      refine lv_iload_n hx hb dX12_against_83 rfl (lv_at hl 2 rfl) ?_
      refine lv_sipush (v := (640:Int32)) hx hb dX12_against_84 (by decide) ?_
      refine lv_icmp_ge (tgt := 97) hx hb dX12_against_87 rfl (fun hc => ?_) (fun hc => ?_)
      · have h := ip hc h
        exact N_against_97 X hP (lv_sub hl [1, 2] rfl) h
      · have h := ine hc h
        refine lv_iload_n hx hb dX12_against_90 rfl (lv_at hl 3 rfl) ?_
        refine lv_sipush (v := (640:Int32)) hx hb dX12_against_91 (by decide) ?_
        refine lv_icmp_lt (tgt := 111) hx hb dX12_against_94 rfl (fun hc => ?_) (fun hc => ?_)
        · have h := ip hc h
          refine lv_aload_n hx hb dX12_against_111 rfl (lv_at hl 1 rfl) ?_
          refine lv_iload_n hx hb dX12_against_112 rfl (lv_at hl 2 rfl) ?_
          obtain ⟨v5, hv5, h⟩ := ob h
          refine cl_layerOf X hP hv5 ⟨Nat.le_of_ble_eq_true rfl, Nat.le_of_ble_eq_true rfl⟩ hl.1 (Nat.le_of_ble_eq_true rfl) dX12_against_113 ?_
          refine lv_aload_n hx hb dX12_against_116 rfl (lv_at hl 1 rfl) ?_
          refine lv_iload_n hx hb dX12_against_117 rfl (lv_at hl 3 rfl) ?_
          obtain ⟨v6, hv6, h⟩ := ob h
          refine cl_layerOf X hP hv6 ⟨Nat.le_of_ble_eq_true rfl, Nat.le_of_ble_eq_true rfl⟩ hl.1 (Nat.le_of_ble_eq_true rfl) dX12_against_118 ?_
          refine lv_icmp_eq (tgt := 146) hx hb dX12_against_121 rfl (fun hc => ?_) (fun hc => ?_)
          · have h := ip hc h
            refine lv_iload_n hx hb dX12_against_146 rfl (lv_at hl 2 rfl) ?_
            refine lv_bipush (v := (16:Int32)) hx hb dX12_against_147 (by decide) ?_
            obtain ⟨v7, hv7, h⟩ := ob h
            obtain ⟨hnv7, hev7⟩ := dv_spec hv7
            refine lv_idiv hx hb dX12_against_149 hnv7 ?_
            rw [hev7]
            refine lv_istore hx hb dX12_against_150 hl (Nat.le_of_ble_eq_true rfl) rfl (fun ls (hl : lv_has ls 6 [(4, .int v7), (3, .int y0), (0, .ref mb), (1, .int x1), (2, .int x2)]) => ?_)
            refine lv_iload_n hx hb dX12_against_152 rfl (lv_at hl 4 rfl) ?_
            refine lv_bipush (v := (16:Int32)) hx hb dX12_against_153 (by decide) ?_
            obtain ⟨v8, hv8, h⟩ := ob h
            obtain ⟨hnv8, hev8⟩ := dv_spec hv8
            refine lv_idiv hx hb dX12_against_155 hnv8 ?_
            rw [hev8]
            refine lv_istore hx hb dX12_against_156 hl (Nat.le_of_ble_eq_true rfl) rfl (fun ls (hl : lv_has ls 6 [(5, .int v8), (4, .int v7), (3, .int y0), (0, .ref mb), (1, .int x1), (2, .int x2)]) => ?_)
            refine lv_aload_n hx hb dX12_against_158 rfl (lv_at hl 3 rfl) ?_
            refine mg_wt X hP dX12_against_159 ?_
            refine lv_aload_n hx hb dX12_against_162 rfl (lv_at hl 3 rfl) ?_
            refine mg_rsel X hP dX12_against_163 ?_
            refine lv_iload hx hb dX12_against_166 (lv_at hl 1 rfl) ?_
            obtain ⟨v9, hv9, h⟩ := ob h
            refine m_ald X hP hv9 dX12_against_168 ?_
            obtain ⟨v10, hv10, h⟩ := ob h
            refine m_ald X hP hv10 dX12_against_169 ?_
            refine lv_aload_n hx hb dX12_against_170 rfl (lv_at hl 3 rfl) ?_
            refine mg_wt X hP dX12_against_171 ?_
            refine lv_aload_n hx hb dX12_against_174 rfl (lv_at hl 3 rfl) ?_
            refine mg_rsel X hP dX12_against_175 ?_
            refine lv_iload hx hb dX12_against_178 (lv_at hl 0 rfl) ?_
            obtain ⟨v11, hv11, h⟩ := ob h
            refine m_ald X hP hv11 dX12_against_180 ?_
            obtain ⟨v12, hv12, h⟩ := ob h
            refine m_ald X hP hv12 dX12_against_181 ?_
            refine lv_icmp_eq (tgt := 219) hx hb dX12_against_182 rfl (fun hc => ?_) (fun hc => ?_)
            · have h := ip hc h
              refine lv_aload_n hx hb dX12_against_219 rfl (lv_at hl 3 rfl) ?_
              refine mg_rs X hP dX12_against_220 ?_
              refine lv_iload hx hb dX12_against_223 (lv_at hl 1 rfl) ?_
              obtain ⟨v13, hv13, h⟩ := ob h
              refine m_ald X hP hv13 dX12_against_225 ?_
              refine lv_aload_n hx hb dX12_against_226 rfl (lv_at hl 3 rfl) ?_
              refine mg_rs X hP dX12_against_227 ?_
              refine lv_iload hx hb dX12_against_230 (lv_at hl 0 rfl) ?_
              obtain ⟨v14, hv14, h⟩ := ob h
              refine m_ald X hP hv14 dX12_against_232 ?_
              refine lv_icmp_gt (tgt := 260) hx hb dX12_against_233 rfl (fun hc => ?_) (fun hc => ?_)
              · have h := ip hc h
                exact N_against_260 X hP (lv_sub hl [3] rfl) h
              · have h := ine hc h
                refine lv_aload_n hx hb dX12_against_236 rfl (lv_at hl 3 rfl) ?_
                refine mg_rs X hP dX12_against_237 ?_
                refine lv_iload hx hb dX12_against_240 (lv_at hl 1 rfl) ?_
                obtain ⟨v15, hv15, h⟩ := ob h
                refine m_ald X hP hv15 dX12_against_242 ?_
                refine lv_aload_n hx hb dX12_against_243 rfl (lv_at hl 3 rfl) ?_
                refine mg_rs X hP dX12_against_244 ?_
                refine lv_iload hx hb dX12_against_247 (lv_at hl 0 rfl) ?_
                obtain ⟨v16, hv16, h⟩ := ob h
                refine m_ald X hP hv16 dX12_against_249 ?_
                refine lv_icmp_ne (tgt := 265) hx hb dX12_against_250 rfl (fun hc => ?_) (fun hc => ?_)
                · have h := ine hc h
                  exact N_against_265 X hP (lv_sub hl [3] rfl) h
                · have h := ip hc h
                  refine lv_iload hx hb dX12_against_253 (lv_at hl 1 rfl) ?_
                  refine lv_iload hx hb dX12_against_255 (lv_at hl 0 rfl) ?_
                  refine lv_icmp_le (tgt := 265) hx hb dX12_against_257 rfl (fun hc => ?_) (fun hc => ?_)
                  · have h := ip hc h
                    exact N_against_265 X hP (lv_sub hl [3] rfl) h
                  · have h := ine hc h
                    exact N_against_260 X hP (lv_sub hl [3] rfl) h
            · have h := ine hc h
              refine lv_aload_n hx hb dX12_against_185 rfl (lv_at hl 3 rfl) ?_
              refine mg_wt X hP dX12_against_186 ?_
              refine lv_aload_n hx hb dX12_against_189 rfl (lv_at hl 3 rfl) ?_
              refine mg_rsel X hP dX12_against_190 ?_
              refine lv_iload hx hb dX12_against_193 (lv_at hl 1 rfl) ?_
              obtain ⟨v17, hv17, h⟩ := ob h
              refine m_ald X hP hv17 dX12_against_195 ?_
              obtain ⟨v18, hv18, h⟩ := ob h
              refine m_ald X hP hv18 dX12_against_196 ?_
              refine lv_aload_n hx hb dX12_against_197 rfl (lv_at hl 3 rfl) ?_
              refine mg_wt X hP dX12_against_198 ?_
              refine lv_aload_n hx hb dX12_against_201 rfl (lv_at hl 3 rfl) ?_
              refine mg_rsel X hP dX12_against_202 ?_
              refine lv_iload hx hb dX12_against_205 (lv_at hl 0 rfl) ?_
              obtain ⟨v19, hv19, h⟩ := ob h
              refine m_ald X hP hv19 dX12_against_207 ?_
              obtain ⟨v20, hv20, h⟩ := ob h
              refine m_ald X hP hv20 dX12_against_208 ?_
              refine lv_icmp_le (tgt := 216) hx hb dX12_against_209 rfl (fun hc => ?_) (fun hc => ?_)
              · have h := ip hc h
                refine lv_bipush (v := ((-5):Int32)) hx hb dX12_against_216 (by decide) ?_
                exact N_against_218 X hP (lv_sub hl [3] rfl) h
              · have h := ine hc h
                refine lv_iconst (v := (5:Int32)) hx hb dX12_against_212 (by decide) ?_
                refine lv_goto (tgt := 218) hx hb dX12_against_213 rfl ?_
                exact N_against_218 X hP (lv_sub hl [3] rfl) h
          · have h := ine hc h
            refine lv_aload_n hx hb dX12_against_124 rfl (lv_at hl 1 rfl) ?_
            refine lv_iload_n hx hb dX12_against_125 rfl (lv_at hl 2 rfl) ?_
            obtain ⟨v21, hv21, h⟩ := ob h
            refine cl_layerOf X hP hv21 ⟨Nat.le_of_ble_eq_true rfl, Nat.le_of_ble_eq_true rfl⟩ hl.1 (Nat.le_of_ble_eq_true rfl) dX12_against_126 ?_
            refine lv_aload_n hx hb dX12_against_129 rfl (lv_at hl 1 rfl) ?_
            refine lv_iload_n hx hb dX12_against_130 rfl (lv_at hl 3 rfl) ?_
            obtain ⟨v22, hv22, h⟩ := ob h
            refine cl_layerOf X hP hv22 ⟨Nat.le_of_ble_eq_true rfl, Nat.le_of_ble_eq_true rfl⟩ hl.1 (Nat.le_of_ble_eq_true rfl) dX12_against_131 ?_
            refine lv_icmp_le (tgt := 141) hx hb dX12_against_134 rfl (fun hc => ?_) (fun hc => ?_)
            · have h := ip hc h
              refine lv_bipush (v := ((-4):Int32)) hx hb dX12_against_141 (by decide) ?_
              exact N_against_143 X hP (lv_sub hl [1, 0] rfl) h
            · have h := ine hc h
              refine lv_iconst (v := (4:Int32)) hx hb dX12_against_137 (by decide) ?_
              refine lv_goto (tgt := 143) hx hb dX12_against_138 rfl ?_
              exact N_against_143 X hP (lv_sub hl [1, 0] rfl) h
        · have h := ine hc h
          exact N_against_97 X hP (lv_sub hl [1, 2] rfl) h
    · have h := ine hc h
      refine lv_aload_n hx hb dX12_against_61 rfl (lv_at hl 1 rfl) ?_
      refine lv_iload_n hx hb dX12_against_62 rfl (lv_at hl 2 rfl) ?_
      obtain ⟨v23, hv23, h⟩ := ob h
      refine cl_depthOf X hP hv23 ⟨Nat.le_of_ble_eq_true rfl, Nat.le_of_ble_eq_true rfl⟩ hl.1 (Nat.le_of_ble_eq_true rfl) dX12_against_63 ?_
      refine lv_aload_n hx hb dX12_against_66 rfl (lv_at hl 1 rfl) ?_
      refine lv_iload_n hx hb dX12_against_67 rfl (lv_at hl 3 rfl) ?_
      obtain ⟨v24, hv24, h⟩ := ob h
      refine cl_depthOf X hP hv24 ⟨Nat.le_of_ble_eq_true rfl, Nat.le_of_ble_eq_true rfl⟩ hl.1 (Nat.le_of_ble_eq_true rfl) dX12_against_68 ?_
      refine lv_icmp_ge (tgt := 78) hx hb dX12_against_71 rfl (fun hc => ?_) (fun hc => ?_)
      · have h := ip hc h
        refine lv_bipush (v := ((-2):Int32)) hx hb dX12_against_78 (by decide) ?_
        exact N_against_80 X hP (lv_sub hl [1, 0] rfl) h
      · have h := ine hc h
        refine lv_iconst (v := (2:Int32)) hx hb dX12_against_74 (by decide) ?_
        refine lv_goto (tgt := 80) hx hb dX12_against_75 rfl ?_
        exact N_against_80 X hP (lv_sub hl [1, 0] rfl) h
  · have h := ine hc h
    refine lv_aload_n hx hb dX12_against_29 rfl (lv_at hl 1 rfl) ?_
    refine lv_iload_n hx hb dX12_against_30 rfl (lv_at hl 2 rfl) ?_
    obtain ⟨v25, hv25, h⟩ := ob h
    refine cl_rank X hP hv25 ⟨Nat.le_of_ble_eq_true rfl, Nat.le_of_ble_eq_true rfl⟩ hl.1 (Nat.le_of_ble_eq_true rfl) dX12_against_31 ?_
    refine lv_aload_n hx hb dX12_against_34 rfl (lv_at hl 1 rfl) ?_
    refine lv_iload_n hx hb dX12_against_35 rfl (lv_at hl 3 rfl) ?_
    obtain ⟨v26, hv26, h⟩ := ob h
    refine cl_rank X hP hv26 ⟨Nat.le_of_ble_eq_true rfl, Nat.le_of_ble_eq_true rfl⟩ hl.1 (Nat.le_of_ble_eq_true rfl) dX12_against_36 ?_
    refine lv_icmp_le (tgt := 46) hx hb dX12_against_39 rfl (fun hc => ?_) (fun hc => ?_)
    · have h := ip hc h
      refine lv_iconst (v := ((-1):Int32)) hx hb dX12_against_46 (by decide) ?_
      exact N_against_47 X hP (lv_sub hl [1] rfl) h
    · have h := ine hc h
      refine lv_iconst (v := (1:Int32)) hx hb dX12_against_42 (by decide) ?_
      refine lv_goto (tgt := 47) hx hb dX12_against_43 rfl ?_
      exact N_against_47 X hP (lv_sub hl [1] rfl) h
set_option maxRecDepth 20000 in
set_option maxHeartbeats 4000000 in
theorem K_against (l : Launch) (D : mD) (mb : Nat) (σ : mS) (x1 : Int32) (x2 : Int32) {r : Int32} (h : f_against x1 x2 σ = some r) : Met l yX12_against (Cond.code yX12_against cX12_against 6 (some .int) :: BG) (rM 4 88) (mPc D mb σ [.int x1, .int x2]) (mQr (some (.int r))) 0 0 (fun _ => False) := by
  refine Met.ofW (cc := cX12_against) (maxL := 6) (ret := (some .int)) (by decide) rfl ?_
  intro p e s m args below meth c s₁ B hml hv
  obtain ⟨rfl, hP, hK⟩ := hv
  have X := mX_of B hml rfl hK
  have hx := X.1
  have hb := X.2.1
  have hown := X.2.2.2.1
  have hts := X.2.2.2.2.1
  have hl := lv_entry (.ref mb :: [.int x1, .int x2]) (n := 6) (Nat.le_of_ble_eq_true rfl)
  rw [lg_entry_eq]
  generalize (lg_sl (.ref mb :: [.int x1, .int x2]) ++ List.replicate (6 - (lg_sl (.ref mb :: [.int x1, .int x2])).length) Slot.unset).toArray = ls at hl ⊢
  have hl : lv_has ls 6 [(0, .ref mb), (1, .int x1), (2, .int x2)] := hl
  show mWr p l e 4 88 s m (Value.ref mb :: [.int x1, .int x2]).toArray below meth c (some (.int r)) (F0 m 0 ls [])
  have h : ((rd σ 39 x1).bind (fun v1 => if v1 = (1:Int32) then (f_against_15 (x1) (x2) (((-1):Int32)) σ) else (f_against_15 (x1) (x2) ((1:Int32)) σ))) = some r := h
  refine lv_aload_n hx hb dX12_against_0 rfl (lv_at hl 0 rfl) ?_
  refine mg_di X hP dX12_against_1 ?_
  refine lv_iload_n hx hb dX12_against_4 rfl (lv_at hl 1 rfl) ?_
  obtain ⟨v1, hv1, h⟩ := ob h
  refine m_ald X hP hv1 dX12_against_5 ?_
  refine lv_iconst (v := (1:Int32)) hx hb dX12_against_6 (by decide) ?_
  refine lv_icmp_ne (tgt := 14) hx hb dX12_against_7 rfl (fun hc => ?_) (fun hc => ?_)
  · have h := ine hc h
    refine lv_iconst (v := (1:Int32)) hx hb dX12_against_14 (by decide) ?_
    exact N_against_15 X hP (lv_sub hl [0, 1, 2] rfl) h
  · have h := ip hc h
    refine lv_iconst (v := ((-1):Int32)) hx hb dX12_against_10 (by decide) ?_
    refine lv_goto (tgt := 15) hx hb dX12_against_11 rfl ?_
    exact N_against_15 X hP (lv_sub hl [0, 1, 2] rfl) h
theorem cl_against {p : Program} {l : Launch} {e : Env} {s : State} {m : MethodId} {args : Array Value} {below : List Frame} {meth : Method} {c : Code} {D : mD} {mb : Nat} {H : Heap} {locs : List Loc} {Q : State → Prop} {cc : ByteArray} {pc fR lR nL : Nat} {ls : Array Slot} {rest : List Value} {ret : Option FieldType} {σ : mS} (X : mX p s m args meth c cc nL ret D) (hP : mP D mb σ H) {x1 : Int32} {x2 : Int32} {r : Int32} (h : f_against x1 x2 σ = some r) (hr : 4 + 1 ≤ fR ∧ 8 + (6 + 11) + 88 ≤ lR) (hl : ls.size = nL) (hW : (rest.map fun v => v.category).sum ≤ 8) (hdg : decode cc pc = .ok (.invokevirtual 357, 3)) (kk : W p l e (rM fR lR) s m args below meth c H locs 0 0 Q (F0 m (pc + 3) ls (.int r :: rest))) : W p l e (rM fR lR) s m args below meth c H locs 0 0 Q (F0 m pc ls (.int x2 :: .int x1 :: .ref mb :: rest)) := m_cr (m_run (n := 2) X (K_against l D mb σ x1 x2 h) ⟨w_2212, w_2214, w_123, w_2215⟩ (hyX rfl (by decide +kernel)) rfl hr hP hl hW hdg rfl) kk
-- holder(II)I
def f_holder_41  (x3 : Int32) (σ : mS) : Option (Int32) := some x3
def f_holder_7  : Nat → Int32 → Int32 → mS → Option (Int32)
  | 0, _, _, _ => none
  | n + 1, x2, x3, σ => if x3 < (0:Int32) then (f_holder_41 (x3) σ) else ((rd σ 43 (((12:Int32) * (((30:Int32) * x2) + x3)) + (6:Int32))).bind (fun v1 => if (0:Int32) < v1 then (f_holder_41 (x3) σ) else ((rd σ 77 x3).bind (fun v2 => f_holder_7 n (x2) (v2) σ))))
def f_holder (x1 : Int32) (x2 : Int32) (σ : mS) : Option (Int32) := (rd σ 77 x1).bind (fun v1 => f_holder_7 4000 (x2) (v1) σ)
set_option maxRecDepth 20000 in
set_option maxHeartbeats 4000000 in
theorem N_holder_41 {p : Program} {l : Launch} {e : Env} {s : State} {m : MethodId} {args : Array Value} {below : List Frame} {meth : Method} {c : Code} {D : mD} {mb : Nat}   {x3 : Int32} {σ : mS} {ls : Array Slot} {r : Int32} (X : mX p s m args meth c cX12_holder 4 (some .int) D) (hP : mP D mb σ s.heap)  (hl : lv_has ls 4 [(0, .ref mb), (3, .int x3)]) (h : f_holder_41  x3 σ = some r) : mWr p l e 0 0 s m args below meth c (some (.int r)) (F0 m 41 ls []) := by
  have hx := X.1
  have hb := X.2.1
  have hown := X.2.2.2.1
  have hts := X.2.2.2.2.1
  have h : (some x3) = some r := h
  refine lv_iload_n hx hb dX12_holder_41 rfl (lv_at hl 1 rfl) ?_
  obtain rfl := sj h
  exact m_ri X dX12_holder_42
set_option maxRecDepth 20000 in
set_option maxHeartbeats 4000000 in
theorem N_holder_7 {p : Program} {l : Launch} {e : Env} {s : State} {m : MethodId} {args : Array Value} {below : List Frame} {meth : Method} {c : Code} {D : mD} {mb : Nat}  {n : Nat} {x2 : Int32} {x3 : Int32} {σ : mS} {ls : Array Slot} {r : Int32} (X : mX p s m args meth c cX12_holder 4 (some .int) D) (hP : mP D mb σ s.heap)  (hl : lv_has ls 4 [(0, .ref mb), (2, .int x2), (3, .int x3)]) (h : f_holder_7  n x2 x3 σ = some r) : mWr p l e 0 0 s m args below meth c (some (.int r)) (F0 m 7 ls []) := by
  have hx := X.1
  have hb := X.2.1
  have hown := X.2.2.2.1
  have hts := X.2.2.2.2.1
  induction n generalizing x2 x3 ls with
  | zero => exact absurd (show none = some r from h) (by simp)
  | succ n ih =>
    have h : (if x3 < (0:Int32) then (f_holder_41 (x3) σ) else ((rd σ 43 (((12:Int32) * (((30:Int32) * x2) + x3)) + (6:Int32))).bind (fun v1 => if (0:Int32) < v1 then (f_holder_41 (x3) σ) else ((rd σ 77 x3).bind (fun v2 => f_holder_7 n (x2) (v2) σ))))) = some r := h
    refine lv_iload_n hx hb dX12_holder_7 rfl (lv_at hl 2 rfl) ?_
    refine lv_if_lt (tgt := 41) hx hb dX12_holder_8 rfl (fun hc => ?_) (fun hc => ?_)
    · have h := ip hc h
      exact N_holder_41 X hP (lv_sub hl [0, 2] rfl) h
    · have h := ine hc h
      refine lv_aload_n hx hb dX12_holder_11 rfl (lv_at hl 0 rfl) ?_
      refine mg_val X hP dX12_holder_12 ?_
      refine lv_bipush (v := (12:Int32)) hx hb dX12_holder_15 (by decide) ?_
      refine lv_bipush (v := (30:Int32)) hx hb dX12_holder_17 (by decide) ?_
      refine lv_iload_n hx hb dX12_holder_19 rfl (lv_at hl 1 rfl) ?_
      refine lv_imul hx hb dX12_holder_20 ?_
      refine lv_iload_n hx hb dX12_holder_21 rfl (lv_at hl 2 rfl) ?_
      refine lv_iadd hx hb dX12_holder_22 ?_
      refine lv_imul hx hb dX12_holder_23 ?_
      refine lv_bipush (v := (6:Int32)) hx hb dX12_holder_24 (by decide) ?_
      refine lv_iadd hx hb dX12_holder_26 ?_
      obtain ⟨v1, hv1, h⟩ := ob h
      refine m_ald X hP hv1 dX12_holder_27 ?_
      refine lv_if_gt (tgt := 41) hx hb dX12_holder_28 rfl (fun hc => ?_) (fun hc => ?_)
      · have h := ip hc h
        exact N_holder_41 X hP (lv_sub hl [0, 2] rfl) h
      · have h := ine hc h
        refine lv_aload_n hx hb dX12_holder_31 rfl (lv_at hl 0 rfl) ?_
        refine mg_shp X hP dX12_holder_32 ?_
        refine lv_iload_n hx hb dX12_holder_35 rfl (lv_at hl 2 rfl) ?_
        obtain ⟨v2, hv2, h⟩ := ob h
        refine m_ald X hP hv2 dX12_holder_36 ?_
        refine lv_istore_n hx hb dX12_holder_37 rfl hl (Nat.le_of_ble_eq_true rfl) rfl (fun ls (hl : lv_has ls 4 [(3, .int v2), (0, .ref mb), (2, .int x2)]) => ?_)
        refine lv_goto (tgt := 7) hx hb dX12_holder_38 rfl ?_
        exact ih (lv_sub hl [1, 2, 0] rfl) h
set_option maxRecDepth 20000 in
set_option maxHeartbeats 4000000 in
theorem K_holder (l : Launch) (D : mD) (mb : Nat) (σ : mS) (x1 : Int32) (x2 : Int32) {r : Int32} (h : f_holder x1 x2 σ = some r) : Met l yX12_holder (Cond.code yX12_holder cX12_holder 4 (some .int) :: BG) (rM 0 0) (mPc D mb σ [.int x1, .int x2]) (mQr (some (.int r))) 0 0 (fun _ => False) := by
  refine Met.ofW (cc := cX12_holder) (maxL := 4) (ret := (some .int)) (by decide) rfl ?_
  intro p e s m args below meth c s₁ B hml hv
  obtain ⟨rfl, hP, hK⟩ := hv
  have X := mX_of B hml rfl hK
  have hx := X.1
  have hb := X.2.1
  have hown := X.2.2.2.1
  have hts := X.2.2.2.2.1
  have hl := lv_entry (.ref mb :: [.int x1, .int x2]) (n := 4) (Nat.le_of_ble_eq_true rfl)
  rw [lg_entry_eq]
  generalize (lg_sl (.ref mb :: [.int x1, .int x2]) ++ List.replicate (4 - (lg_sl (.ref mb :: [.int x1, .int x2])).length) Slot.unset).toArray = ls at hl ⊢
  have hl : lv_has ls 4 [(0, .ref mb), (1, .int x1), (2, .int x2)] := hl
  show mWr p l e 0 0 s m (Value.ref mb :: [.int x1, .int x2]).toArray below meth c (some (.int r)) (F0 m 0 ls [])
  have h : ((rd σ 77 x1).bind (fun v1 => f_holder_7 4000 (x2) (v1) σ)) = some r := h
  refine lv_aload_n hx hb dX12_holder_0 rfl (lv_at hl 0 rfl) ?_
  refine mg_shp X hP dX12_holder_1 ?_
  refine lv_iload_n hx hb dX12_holder_4 rfl (lv_at hl 1 rfl) ?_
  obtain ⟨v1, hv1, h⟩ := ob h
  refine m_ald X hP hv1 dX12_holder_5 ?_
  refine lv_istore_n hx hb dX12_holder_6 rfl hl (Nat.le_of_ble_eq_true rfl) rfl (fun ls (hl : lv_has ls 4 [(3, .int v1), (0, .ref mb), (1, .int x1), (2, .int x2)]) => ?_)
  exact N_holder_7 X hP (lv_sub hl [1, 3, 0] rfl) h
theorem cl_holder {p : Program} {l : Launch} {e : Env} {s : State} {m : MethodId} {args : Array Value} {below : List Frame} {meth : Method} {c : Code} {D : mD} {mb : Nat} {H : Heap} {locs : List Loc} {Q : State → Prop} {cc : ByteArray} {pc fR lR nL : Nat} {ls : Array Slot} {rest : List Value} {ret : Option FieldType} {σ : mS} (X : mX p s m args meth c cc nL ret D) (hP : mP D mb σ H) {x1 : Int32} {x2 : Int32} {r : Int32} (h : f_holder x1 x2 σ = some r) (hr : 0 + 1 ≤ fR ∧ 8 + (4 + 11) + 0 ≤ lR) (hl : ls.size = nL) (hW : (rest.map fun v => v.category).sum ≤ 8) (hdg : decode cc pc = .ok (.invokevirtual 347, 3)) (kk : W p l e (rM fR lR) s m args below meth c H locs 0 0 Q (F0 m (pc + 3) ls (.int r :: rest))) : W p l e (rM fR lR) s m args below meth c H locs 0 0 Q (F0 m pc ls (.int x2 :: .int x1 :: .ref mb :: rest)) := m_cr (m_run (n := 2) X (K_holder l D mb σ x1 x2 h) ⟨w_2208, w_2210, w_122, w_2211⟩ (hyX rfl (by decide +kernel)) rfl hr hP hl hW hdg rfl) kk
-- fits(IIIZ)Z
def f_fits_114  (y0 : Int32) (σ : mS) : Option (Int32) := rz y0
def f_fits_133  (y0 : Int32) (σ : mS) : Option (Int32) := rz y0
def f_fits_160  (y0 : Int32) (σ : mS) : Option (Int32) := rz y0
def f_fits_159   (σ : mS) : Option (Int32) := f_fits_160 ((0:Int32)) σ
def f_fits_187  (y0 : Int32) (σ : mS) : Option (Int32) := rz y0
def f_fits_186   (σ : mS) : Option (Int32) := f_fits_187 ((0:Int32)) σ
def f_fits_53  (x1 : Int32) (x4 : Int32) (x5 : Int32) (y0 : Int32) (σ : mS) : Option (Int32) := (rd σ 34 x1).bind (fun v1 => if v1 = (0:Int32) then ((rd σ 35 x1).bind (fun v2 => if (σ.2 50) < v2 then (f_fits_114 ((0:Int32)) σ) else (f_fits_114 ((1:Int32)) σ))) else (if v1 = (1:Int32) then ((rd σ 35 x1).bind (fun v3 => if v3 < (σ.2 50) then (f_fits_133 ((0:Int32)) σ) else (f_fits_133 ((1:Int32)) σ))) else (if v1 = (2:Int32) then (if x4 = (0:Int32) then (if x5 < (0:Int32) then (f_fits_159 σ) else ((rd σ 35 x1).bind (fun v4 => if y0 < v4 then (f_fits_159 σ) else (f_fits_160 ((1:Int32)) σ)))) else (f_fits_159 σ)) else (if v1 = (3:Int32) then (if x4 = (0:Int32) then (if x5 < (0:Int32) then (f_fits_186 σ) else ((rd σ 35 x1).bind (fun v5 => if v5 < y0 then (f_fits_186 σ) else (f_fits_187 ((1:Int32)) σ)))) else (f_fits_186 σ)) else (if v1 = (4:Int32) then ((rd σ 35 x1).bind (fun v6 => (f_in (v6) ((0:Int32)) ((14:Int32))).bind (fun v7 => rz v7))) else (rz (1:Int32)))))))
def f_fits_30  (x1 : Int32) (x3 : Int32) (x4 : Int32) (y0 : Int32) (σ : mS) : Option (Int32) := if (0:Int32) ≤ y0 then ((rd σ 46 (((30:Int32) * x3) + y0)).bind (fun v1 => f_fits_53 (x1) (x4) (y0) (v1) σ)) else (f_fits_53 (x1) (x4) (y0) ((0:Int32)) σ)
def f_fits_20  (x1 : Int32) (x2 : Int32) (x3 : Int32) (x4 : Int32) (σ : mS) : Option (Int32) := (f_holder (x2) (x3) σ).bind (fun v1 => f_fits_30 (x1) (x3) (x4) (v1) σ)
def f_fits (x1 : Int32) (x2 : Int32) (x3 : Int32) (x4 : Int32) (σ : mS) : Option (Int32) := (rd σ 34 x1).bind (fun v1 => if v1 = (2:Int32) then (f_fits_20 (x1) (x2) (x3) (x4) σ) else ((rd σ 34 x1).bind (fun v2 => if v2 = (3:Int32) then (f_fits_20 (x1) (x2) (x3) (x4) σ) else (f_fits_30 (x1) (x3) (x4) (((-1):Int32)) σ))))
set_option maxRecDepth 20000 in
set_option maxHeartbeats 4000000 in
theorem N_fits_114 {p : Program} {l : Launch} {e : Env} {s : State} {m : MethodId} {args : Array Value} {below : List Frame} {meth : Method} {c : Code} {D : mD} {mb : Nat}   {y0 : Int32} {σ : mS} {ls : Array Slot} {r : Int32} (X : mX p s m args meth c cX12_fits 7 (some .boolean) D) (hP : mP D mb σ s.heap)  (hl : lv_has ls 7 [(0, .ref mb)]) (h : f_fits_114  y0 σ = some r) : mWr p l e 1 23 s m args below meth c (some (.int r)) (F0 m 114 ls [.int y0]) := by
  have hx := X.1
  have hb := X.2.1
  have hown := X.2.2.2.1
  have hts := X.2.2.2.2.1
  have h : (rz y0) = some r := h
  obtain ⟨hz, rfl⟩ := rz_spec h
  exact m_rz X hz dX12_fits_114
set_option maxRecDepth 20000 in
set_option maxHeartbeats 4000000 in
theorem N_fits_133 {p : Program} {l : Launch} {e : Env} {s : State} {m : MethodId} {args : Array Value} {below : List Frame} {meth : Method} {c : Code} {D : mD} {mb : Nat}   {y0 : Int32} {σ : mS} {ls : Array Slot} {r : Int32} (X : mX p s m args meth c cX12_fits 7 (some .boolean) D) (hP : mP D mb σ s.heap)  (hl : lv_has ls 7 [(0, .ref mb)]) (h : f_fits_133  y0 σ = some r) : mWr p l e 1 23 s m args below meth c (some (.int r)) (F0 m 133 ls [.int y0]) := by
  have hx := X.1
  have hb := X.2.1
  have hown := X.2.2.2.1
  have hts := X.2.2.2.2.1
  have h : (rz y0) = some r := h
  obtain ⟨hz, rfl⟩ := rz_spec h
  exact m_rz X hz dX12_fits_133
set_option maxRecDepth 20000 in
set_option maxHeartbeats 4000000 in
theorem N_fits_160 {p : Program} {l : Launch} {e : Env} {s : State} {m : MethodId} {args : Array Value} {below : List Frame} {meth : Method} {c : Code} {D : mD} {mb : Nat}   {y0 : Int32} {σ : mS} {ls : Array Slot} {r : Int32} (X : mX p s m args meth c cX12_fits 7 (some .boolean) D) (hP : mP D mb σ s.heap)  (hl : lv_has ls 7 [(0, .ref mb)]) (h : f_fits_160  y0 σ = some r) : mWr p l e 1 23 s m args below meth c (some (.int r)) (F0 m 160 ls [.int y0]) := by
  have hx := X.1
  have hb := X.2.1
  have hown := X.2.2.2.1
  have hts := X.2.2.2.2.1
  have h : (rz y0) = some r := h
  obtain ⟨hz, rfl⟩ := rz_spec h
  exact m_rz X hz dX12_fits_160
set_option maxRecDepth 20000 in
set_option maxHeartbeats 4000000 in
theorem N_fits_159 {p : Program} {l : Launch} {e : Env} {s : State} {m : MethodId} {args : Array Value} {below : List Frame} {meth : Method} {c : Code} {D : mD} {mb : Nat}    {σ : mS} {ls : Array Slot} {r : Int32} (X : mX p s m args meth c cX12_fits 7 (some .boolean) D) (hP : mP D mb σ s.heap)  (hl : lv_has ls 7 [(0, .ref mb)]) (h : f_fits_159   σ = some r) : mWr p l e 1 23 s m args below meth c (some (.int r)) (F0 m 159 ls []) := by
  have hx := X.1
  have hb := X.2.1
  have hown := X.2.2.2.1
  have hts := X.2.2.2.2.1
  have h : (f_fits_160 ((0:Int32)) σ) = some r := h
  refine lv_iconst (v := (0:Int32)) hx hb dX12_fits_159 (by decide) ?_
  exact N_fits_160 X hP (lv_sub hl [0] rfl) h
set_option maxRecDepth 20000 in
set_option maxHeartbeats 4000000 in
theorem N_fits_187 {p : Program} {l : Launch} {e : Env} {s : State} {m : MethodId} {args : Array Value} {below : List Frame} {meth : Method} {c : Code} {D : mD} {mb : Nat}   {y0 : Int32} {σ : mS} {ls : Array Slot} {r : Int32} (X : mX p s m args meth c cX12_fits 7 (some .boolean) D) (hP : mP D mb σ s.heap)  (hl : lv_has ls 7 [(0, .ref mb)]) (h : f_fits_187  y0 σ = some r) : mWr p l e 1 23 s m args below meth c (some (.int r)) (F0 m 187 ls [.int y0]) := by
  have hx := X.1
  have hb := X.2.1
  have hown := X.2.2.2.1
  have hts := X.2.2.2.2.1
  have h : (rz y0) = some r := h
  obtain ⟨hz, rfl⟩ := rz_spec h
  exact m_rz X hz dX12_fits_187
set_option maxRecDepth 20000 in
set_option maxHeartbeats 4000000 in
theorem N_fits_186 {p : Program} {l : Launch} {e : Env} {s : State} {m : MethodId} {args : Array Value} {below : List Frame} {meth : Method} {c : Code} {D : mD} {mb : Nat}    {σ : mS} {ls : Array Slot} {r : Int32} (X : mX p s m args meth c cX12_fits 7 (some .boolean) D) (hP : mP D mb σ s.heap)  (hl : lv_has ls 7 [(0, .ref mb)]) (h : f_fits_186   σ = some r) : mWr p l e 1 23 s m args below meth c (some (.int r)) (F0 m 186 ls []) := by
  have hx := X.1
  have hb := X.2.1
  have hown := X.2.2.2.1
  have hts := X.2.2.2.2.1
  have h : (f_fits_187 ((0:Int32)) σ) = some r := h
  refine lv_iconst (v := (0:Int32)) hx hb dX12_fits_186 (by decide) ?_
  exact N_fits_187 X hP (lv_sub hl [0] rfl) h
set_option maxRecDepth 20000 in
set_option maxHeartbeats 4000000 in
theorem N_fits_53 {p : Program} {l : Launch} {e : Env} {s : State} {m : MethodId} {args : Array Value} {below : List Frame} {meth : Method} {c : Code} {D : mD} {mb : Nat}   {x1 : Int32} {x4 : Int32} {x5 : Int32} {y0 : Int32} {σ : mS} {ls : Array Slot} {r : Int32} (X : mX p s m args meth c cX12_fits 7 (some .boolean) D) (hP : mP D mb σ s.heap)  (hl : lv_has ls 7 [(0, .ref mb), (1, .int x1), (4, .int x4), (5, .int x5)]) (h : f_fits_53  x1 x4 x5 y0 σ = some r) : mWr p l e 1 23 s m args below meth c (some (.int r)) (F0 m 53 ls [.int y0]) := by
  have hx := X.1
  have hb := X.2.1
  have hown := X.2.2.2.1
  have hts := X.2.2.2.2.1
  have h : ((rd σ 34 x1).bind (fun v1 => if v1 = (0:Int32) then ((rd σ 35 x1).bind (fun v2 => if (σ.2 50) < v2 then (f_fits_114 ((0:Int32)) σ) else (f_fits_114 ((1:Int32)) σ))) else (if v1 = (1:Int32) then ((rd σ 35 x1).bind (fun v3 => if v3 < (σ.2 50) then (f_fits_133 ((0:Int32)) σ) else (f_fits_133 ((1:Int32)) σ))) else (if v1 = (2:Int32) then (if x4 = (0:Int32) then (if x5 < (0:Int32) then (f_fits_159 σ) else ((rd σ 35 x1).bind (fun v4 => if y0 < v4 then (f_fits_159 σ) else (f_fits_160 ((1:Int32)) σ)))) else (f_fits_159 σ)) else (if v1 = (3:Int32) then (if x4 = (0:Int32) then (if x5 < (0:Int32) then (f_fits_186 σ) else ((rd σ 35 x1).bind (fun v5 => if v5 < y0 then (f_fits_186 σ) else (f_fits_187 ((1:Int32)) σ)))) else (f_fits_186 σ)) else (if v1 = (4:Int32) then ((rd σ 35 x1).bind (fun v6 => (f_in (v6) ((0:Int32)) ((14:Int32))).bind (fun v7 => rz v7))) else (rz (1:Int32)))))))) = some r := h
  refine lv_istore hx hb dX12_fits_53 hl (Nat.le_of_ble_eq_true rfl) rfl (fun ls (hl : lv_has ls 7 [(6, .int y0), (0, .ref mb), (1, .int x1), (4, .int x4), (5, .int x5)]) => ?_)
  refine lv_aload_n hx hb dX12_fits_55 rfl (lv_at hl 1 rfl) ?_
  refine mg_rc X hP dX12_fits_56 ?_
  refine lv_iload_n hx hb dX12_fits_59 rfl (lv_at hl 2 rfl) ?_
  obtain ⟨v1, hv1, h⟩ := ob h
  refine m_ald X hP hv1 dX12_fits_60 ?_
  by_cases hc0 : v1 = (0:Int32)
  · have h := ip hc0 h
    refine lv_tableIn (tgt := 96) (off := 35) hx hb dX12_fits_61 (by rw [hc0]; decide) (by rw [hc0]; decide) (by rw [hc0]; rfl) rfl ?_
    refine lv_aload_n hx hb dX12_fits_96 rfl (lv_at hl 1 rfl) ?_
    refine mg_width X hP dX12_fits_97 ?_
    refine lv_aload_n hx hb dX12_fits_100 rfl (lv_at hl 1 rfl) ?_
    refine mg_rn X hP dX12_fits_101 ?_
    refine lv_iload_n hx hb dX12_fits_104 rfl (lv_at hl 2 rfl) ?_
    obtain ⟨v2, hv2, h⟩ := ob h
    refine m_ald X hP hv2 dX12_fits_105 ?_
    refine lv_icmp_lt (tgt := 113) hx hb dX12_fits_106 rfl (fun hc => ?_) (fun hc => ?_)
    · have h := ip hc h
      refine lv_iconst (v := (0:Int32)) hx hb dX12_fits_113 (by decide) ?_
      exact N_fits_114 X hP (lv_sub hl [1] rfl) h
    · have h := ine hc h
      refine lv_iconst (v := (1:Int32)) hx hb dX12_fits_109 (by decide) ?_
      refine lv_goto (tgt := 114) hx hb dX12_fits_110 rfl ?_
      exact N_fits_114 X hP (lv_sub hl [1] rfl) h
  · have h := ine hc0 h
    by_cases hc1 : v1 = (1:Int32)
    · have h := ip hc1 h
      refine lv_tableIn (tgt := 115) (off := 54) hx hb dX12_fits_61 (by rw [hc1]; decide) (by rw [hc1]; decide) (by rw [hc1]; rfl) rfl ?_
      refine lv_aload_n hx hb dX12_fits_115 rfl (lv_at hl 1 rfl) ?_
      refine mg_width X hP dX12_fits_116 ?_
      refine lv_aload_n hx hb dX12_fits_119 rfl (lv_at hl 1 rfl) ?_
      refine mg_rn X hP dX12_fits_120 ?_
      refine lv_iload_n hx hb dX12_fits_123 rfl (lv_at hl 2 rfl) ?_
      obtain ⟨v3, hv3, h⟩ := ob h
      refine m_ald X hP hv3 dX12_fits_124 ?_
      refine lv_icmp_gt (tgt := 132) hx hb dX12_fits_125 rfl (fun hc => ?_) (fun hc => ?_)
      · have h := ip hc h
        refine lv_iconst (v := (0:Int32)) hx hb dX12_fits_132 (by decide) ?_
        exact N_fits_133 X hP (lv_sub hl [1] rfl) h
      · have h := ine hc h
        refine lv_iconst (v := (1:Int32)) hx hb dX12_fits_128 (by decide) ?_
        refine lv_goto (tgt := 133) hx hb dX12_fits_129 rfl ?_
        exact N_fits_133 X hP (lv_sub hl [1] rfl) h
    · have h := ine hc1 h
      by_cases hc2 : v1 = (2:Int32)
      · have h := ip hc2 h
        refine lv_tableIn (tgt := 134) (off := 73) hx hb dX12_fits_61 (by rw [hc2]; decide) (by rw [hc2]; decide) (by rw [hc2]; rfl) rfl ?_
        refine lv_iload hx hb dX12_fits_134 (lv_at hl 3 rfl) ?_
        refine lv_if_ne (tgt := 159) hx hb dX12_fits_136 rfl (fun hc => ?_) (fun hc => ?_)
        · have h := ine hc h
          exact N_fits_159 X hP (lv_sub hl [1] rfl) h
        · have h := ip hc h
          refine lv_iload hx hb dX12_fits_139 (lv_at hl 4 rfl) ?_
          refine lv_if_lt (tgt := 159) hx hb dX12_fits_141 rfl (fun hc => ?_) (fun hc => ?_)
          · have h := ip hc h
            exact N_fits_159 X hP (lv_sub hl [1] rfl) h
          · have h := ine hc h
            refine lv_iload hx hb dX12_fits_144 (lv_at hl 0 rfl) ?_
            refine lv_aload_n hx hb dX12_fits_146 rfl (lv_at hl 1 rfl) ?_
            refine mg_rn X hP dX12_fits_147 ?_
            refine lv_iload_n hx hb dX12_fits_150 rfl (lv_at hl 2 rfl) ?_
            obtain ⟨v4, hv4, h⟩ := ob h
            refine m_ald X hP hv4 dX12_fits_151 ?_
            refine lv_icmp_lt (tgt := 159) hx hb dX12_fits_152 rfl (fun hc => ?_) (fun hc => ?_)
            · have h := ip hc h
              exact N_fits_159 X hP (lv_sub hl [1] rfl) h
            · have h := ine hc h
              refine lv_iconst (v := (1:Int32)) hx hb dX12_fits_155 (by decide) ?_
              refine lv_goto (tgt := 160) hx hb dX12_fits_156 rfl ?_
              exact N_fits_160 X hP (lv_sub hl [1] rfl) h
      · have h := ine hc2 h
        by_cases hc3 : v1 = (3:Int32)
        · have h := ip hc3 h
          refine lv_tableIn (tgt := 161) (off := 100) hx hb dX12_fits_61 (by rw [hc3]; decide) (by rw [hc3]; decide) (by rw [hc3]; rfl) rfl ?_
          refine lv_iload hx hb dX12_fits_161 (lv_at hl 3 rfl) ?_
          refine lv_if_ne (tgt := 186) hx hb dX12_fits_163 rfl (fun hc => ?_) (fun hc => ?_)
          · have h := ine hc h
            exact N_fits_186 X hP (lv_sub hl [1] rfl) h
          · have h := ip hc h
            refine lv_iload hx hb dX12_fits_166 (lv_at hl 4 rfl) ?_
            refine lv_if_lt (tgt := 186) hx hb dX12_fits_168 rfl (fun hc => ?_) (fun hc => ?_)
            · have h := ip hc h
              exact N_fits_186 X hP (lv_sub hl [1] rfl) h
            · have h := ine hc h
              refine lv_iload hx hb dX12_fits_171 (lv_at hl 0 rfl) ?_
              refine lv_aload_n hx hb dX12_fits_173 rfl (lv_at hl 1 rfl) ?_
              refine mg_rn X hP dX12_fits_174 ?_
              refine lv_iload_n hx hb dX12_fits_177 rfl (lv_at hl 2 rfl) ?_
              obtain ⟨v5, hv5, h⟩ := ob h
              refine m_ald X hP hv5 dX12_fits_178 ?_
              refine lv_icmp_gt (tgt := 186) hx hb dX12_fits_179 rfl (fun hc => ?_) (fun hc => ?_)
              · have h := ip hc h
                exact N_fits_186 X hP (lv_sub hl [1] rfl) h
              · have h := ine hc h
                refine lv_iconst (v := (1:Int32)) hx hb dX12_fits_182 (by decide) ?_
                refine lv_goto (tgt := 187) hx hb dX12_fits_183 rfl ?_
                exact N_fits_187 X hP (lv_sub hl [1] rfl) h
        · have h := ine hc3 h
          by_cases hc4 : v1 = (4:Int32)
          · have h := ip hc4 h
            refine lv_tableIn (tgt := 188) (off := 127) hx hb dX12_fits_61 (by rw [hc4]; decide) (by rw [hc4]; decide) (by rw [hc4]; rfl) rfl ?_
            refine lv_aload_n hx hb dX12_fits_188 rfl (lv_at hl 1 rfl) ?_
            refine lv_aload_n hx hb dX12_fits_189 rfl (lv_at hl 1 rfl) ?_
            refine mg_rn X hP dX12_fits_190 ?_
            refine lv_iload_n hx hb dX12_fits_193 rfl (lv_at hl 2 rfl) ?_
            obtain ⟨v6, hv6, h⟩ := ob h
            refine m_ald X hP hv6 dX12_fits_194 ?_
            refine lv_iconst (v := (0:Int32)) hx hb dX12_fits_195 (by decide) ?_
            refine lv_bipush (v := (14:Int32)) hx hb dX12_fits_196 (by decide) ?_
            obtain ⟨v7, hv7, h⟩ := ob h
            refine cl_in X hP hv7 ⟨Nat.le_of_ble_eq_true rfl, Nat.le_of_ble_eq_true rfl⟩ hl.1 (Nat.le_of_ble_eq_true rfl) dX12_fits_198 ?_
            obtain ⟨hz, rfl⟩ := rz_spec h
            exact m_rz X hz dX12_fits_201
          · have h := ine hc4 h
            refine lv_tableOut (tgt := 202) hx hb dX12_fits_61 (sw_out (lo := 0) (hi := 4) (fun k h1 h2 => by
              have h3 : k = 0 ∨ k = 1 ∨ k = 2 ∨ k = 3 ∨ k = 4 := by omega
              rcases h3 with rfl | rfl | rfl | rfl | rfl
              · exact hc0
              · exact hc1
              · exact hc2
              · exact hc3
              · exact hc4)) rfl ?_
            refine lv_iconst (v := (1:Int32)) hx hb dX12_fits_202 (by decide) ?_
            obtain ⟨hz, rfl⟩ := rz_spec h
            exact m_rz X hz dX12_fits_203
set_option maxRecDepth 20000 in
set_option maxHeartbeats 4000000 in
theorem N_fits_30 {p : Program} {l : Launch} {e : Env} {s : State} {m : MethodId} {args : Array Value} {below : List Frame} {meth : Method} {c : Code} {D : mD} {mb : Nat}   {x1 : Int32} {x3 : Int32} {x4 : Int32} {y0 : Int32} {σ : mS} {ls : Array Slot} {r : Int32} (X : mX p s m args meth c cX12_fits 7 (some .boolean) D) (hP : mP D mb σ s.heap)  (hl : lv_has ls 7 [(0, .ref mb), (1, .int x1), (3, .int x3), (4, .int x4)]) (h : f_fits_30  x1 x3 x4 y0 σ = some r) : mWr p l e 1 23 s m args below meth c (some (.int r)) (F0 m 30 ls [.int y0]) := by
  have hx := X.1
  have hb := X.2.1
  have hown := X.2.2.2.1
  have hts := X.2.2.2.2.1
  have h : (if (0:Int32) ≤ y0 then ((rd σ 46 (((30:Int32) * x3) + y0)).bind (fun v1 => f_fits_53 (x1) (x4) (y0) (v1) σ)) else (f_fits_53 (x1) (x4) (y0) ((0:Int32)) σ)) = some r := h
  refine lv_istore hx hb dX12_fits_30 hl (Nat.le_of_ble_eq_true rfl) rfl (fun ls (hl : lv_has ls 7 [(5, .int y0), (0, .ref mb), (1, .int x1), (3, .int x3), (4, .int x4)]) => ?_)
  refine lv_iload hx hb dX12_fits_32 (lv_at hl 0 rfl) ?_
  refine lv_if_ge (tgt := 41) hx hb dX12_fits_34 rfl (fun hc => ?_) (fun hc => ?_)
  · have h := ip hc h
    refine lv_aload_n hx hb dX12_fits_41 rfl (lv_at hl 1 rfl) ?_
    refine mg_sz X hP dX12_fits_42 ?_
    refine lv_bipush (v := (30:Int32)) hx hb dX12_fits_45 (by decide) ?_
    refine lv_iload_n hx hb dX12_fits_47 rfl (lv_at hl 3 rfl) ?_
    refine lv_imul hx hb dX12_fits_48 ?_
    refine lv_iload hx hb dX12_fits_49 (lv_at hl 0 rfl) ?_
    refine lv_iadd hx hb dX12_fits_51 ?_
    obtain ⟨v1, hv1, h⟩ := ob h
    refine m_ald X hP hv1 dX12_fits_52 ?_
    exact N_fits_53 X hP (lv_sub hl [1, 2, 4, 0] rfl) h
  · have h := ine hc h
    refine lv_iconst (v := (0:Int32)) hx hb dX12_fits_37 (by decide) ?_
    refine lv_goto (tgt := 53) hx hb dX12_fits_38 rfl ?_
    exact N_fits_53 X hP (lv_sub hl [1, 2, 4, 0] rfl) h
set_option maxRecDepth 20000 in
set_option maxHeartbeats 4000000 in
theorem N_fits_20 {p : Program} {l : Launch} {e : Env} {s : State} {m : MethodId} {args : Array Value} {below : List Frame} {meth : Method} {c : Code} {D : mD} {mb : Nat}   {x1 : Int32} {x2 : Int32} {x3 : Int32} {x4 : Int32} {σ : mS} {ls : Array Slot} {r : Int32} (X : mX p s m args meth c cX12_fits 7 (some .boolean) D) (hP : mP D mb σ s.heap)  (hl : lv_has ls 7 [(0, .ref mb), (1, .int x1), (2, .int x2), (3, .int x3), (4, .int x4)]) (h : f_fits_20  x1 x2 x3 x4 σ = some r) : mWr p l e 1 23 s m args below meth c (some (.int r)) (F0 m 20 ls []) := by
  have hx := X.1
  have hb := X.2.1
  have hown := X.2.2.2.1
  have hts := X.2.2.2.2.1
  have h : ((f_holder (x2) (x3) σ).bind (fun v1 => f_fits_30 (x1) (x3) (x4) (v1) σ)) = some r := h
  refine lv_aload_n hx hb dX12_fits_20 rfl (lv_at hl 0 rfl) ?_
  refine lv_iload_n hx hb dX12_fits_21 rfl (lv_at hl 2 rfl) ?_
  refine lv_iload_n hx hb dX12_fits_22 rfl (lv_at hl 3 rfl) ?_
  obtain ⟨v1, hv1, h⟩ := ob h
  refine cl_holder X hP hv1 ⟨Nat.le_of_ble_eq_true rfl, Nat.le_of_ble_eq_true rfl⟩ hl.1 (Nat.le_of_ble_eq_true rfl) dX12_fits_23 ?_
  refine lv_goto (tgt := 30) hx hb dX12_fits_26 rfl ?_
  exact N_fits_30 X hP (lv_sub hl [0, 1, 3, 4] rfl) h
set_option maxRecDepth 20000 in
set_option maxHeartbeats 4000000 in
theorem K_fits (l : Launch) (D : mD) (mb : Nat) (σ : mS) (x1 : Int32) (x2 : Int32) (x3 : Int32) (x4 : Int32) {r : Int32} (h : f_fits x1 x2 x3 x4 σ = some r) : Met l yX12_fits (Cond.code yX12_fits cX12_fits 7 (some .boolean) :: BG) (rM 1 23) (mPc D mb σ [.int x1, .int x2, .int x3, .int x4]) (mQr (some (.int r))) 0 0 (fun _ => False) := by
  refine Met.ofW (cc := cX12_fits) (maxL := 7) (ret := (some .boolean)) (by decide) rfl ?_
  intro p e s m args below meth c s₁ B hml hv
  obtain ⟨rfl, hP, hK⟩ := hv
  have X := mX_of B hml rfl hK
  have hx := X.1
  have hb := X.2.1
  have hown := X.2.2.2.1
  have hts := X.2.2.2.2.1
  have hl := lv_entry (.ref mb :: [.int x1, .int x2, .int x3, .int x4]) (n := 7) (Nat.le_of_ble_eq_true rfl)
  rw [lg_entry_eq]
  generalize (lg_sl (.ref mb :: [.int x1, .int x2, .int x3, .int x4]) ++ List.replicate (7 - (lg_sl (.ref mb :: [.int x1, .int x2, .int x3, .int x4])).length) Slot.unset).toArray = ls at hl ⊢
  have hl : lv_has ls 7 [(0, .ref mb), (1, .int x1), (2, .int x2), (3, .int x3), (4, .int x4)] := hl
  show mWr p l e 1 23 s m (Value.ref mb :: [.int x1, .int x2, .int x3, .int x4]).toArray below meth c (some (.int r)) (F0 m 0 ls [])
  have h : ((rd σ 34 x1).bind (fun v1 => if v1 = (2:Int32) then (f_fits_20 (x1) (x2) (x3) (x4) σ) else ((rd σ 34 x1).bind (fun v2 => if v2 = (3:Int32) then (f_fits_20 (x1) (x2) (x3) (x4) σ) else (f_fits_30 (x1) (x3) (x4) (((-1):Int32)) σ))))) = some r := h
  refine lv_aload_n hx hb dX12_fits_0 rfl (lv_at hl 0 rfl) ?_
  refine mg_rc X hP dX12_fits_1 ?_
  refine lv_iload_n hx hb dX12_fits_4 rfl (lv_at hl 1 rfl) ?_
  obtain ⟨v1, hv1, h⟩ := ob h
  refine m_ald X hP hv1 dX12_fits_5 ?_
  refine lv_iconst (v := (2:Int32)) hx hb dX12_fits_6 (by decide) ?_
  refine lv_icmp_eq (tgt := 20) hx hb dX12_fits_7 rfl (fun hc => ?_) (fun hc => ?_)
  · have h := ip hc h
    exact N_fits_20 X hP (lv_sub hl [0, 1, 2, 3, 4] rfl) h
  · have h := ine hc h
    refine lv_aload_n hx hb dX12_fits_10 rfl (lv_at hl 0 rfl) ?_
    refine mg_rc X hP dX12_fits_11 ?_
    refine lv_iload_n hx hb dX12_fits_14 rfl (lv_at hl 1 rfl) ?_
    obtain ⟨v2, hv2, h⟩ := ob h
    refine m_ald X hP hv2 dX12_fits_15 ?_
    refine lv_iconst (v := (3:Int32)) hx hb dX12_fits_16 (by decide) ?_
    refine lv_icmp_ne (tgt := 29) hx hb dX12_fits_17 rfl (fun hc => ?_) (fun hc => ?_)
    · have h := ine hc h
      refine lv_iconst (v := ((-1):Int32)) hx hb dX12_fits_29 (by decide) ?_
      exact N_fits_30 X hP (lv_sub hl [0, 1, 3, 4] rfl) h
    · have h := ip hc h
      exact N_fits_20 X hP (lv_sub hl [0, 1, 2, 3, 4] rfl) h
theorem cl_fits {p : Program} {l : Launch} {e : Env} {s : State} {m : MethodId} {args : Array Value} {below : List Frame} {meth : Method} {c : Code} {D : mD} {mb : Nat} {H : Heap} {locs : List Loc} {Q : State → Prop} {cc : ByteArray} {pc fR lR nL : Nat} {ls : Array Slot} {rest : List Value} {ret : Option FieldType} {σ : mS} (X : mX p s m args meth c cc nL ret D) (hP : mP D mb σ H) {x1 : Int32} {x2 : Int32} {x3 : Int32} {x4 : Int32} {r : Int32} (h : f_fits x1 x2 x3 x4 σ = some r) (hr : 1 + 1 ≤ fR ∧ 8 + (7 + 11) + 23 ≤ lR) (hl : ls.size = nL) (hW : (rest.map fun v => v.category).sum ≤ 8) (hdg : decode cc pc = .ok (.invokevirtual 353, 3)) (kk : W p l e (rM fR lR) s m args below meth c H locs 0 0 Q (F0 m (pc + 3) ls (.int r :: rest))) : W p l e (rM fR lR) s m args below meth c H locs 0 0 Q (F0 m pc ls (.int x4 :: .int x3 :: .int x2 :: .int x1 :: .ref mb :: rest)) := m_cr (m_run (n := 4) X (K_fits l D mb σ x1 x2 x3 x4 h) ⟨w_2204, w_2206, w_121, w_2207⟩ (hyX rfl (by decide +kernel)) rfl hr hP hl hW hdg rfl) kk
-- stands(I)Z
def f_stands_52  (y0 : Int32) (σ : mS) : Option (Int32) := rz y0
def f_stands_51   (σ : mS) : Option (Int32) := f_stands_52 ((0:Int32)) σ
def f_stands_47   (σ : mS) : Option (Int32) := f_stands_52 ((1:Int32)) σ
def f_stands (x1 : Int32) (σ : mS) : Option (Int32) := (rd σ 32 x1).bind (fun v1 => (rd σ 30 v1).bind (fun v2 => if v2 = (1:Int32) then ((rd σ 32 x1).bind (fun v3 => (rd σ 28 v3).bind (fun v4 => if v4 < (0:Int32) then (f_stands_47 σ) else ((rd σ 32 x1).bind (fun v5 => (rd σ 28 v5).bind (fun v6 => (f_inDoc (v6) σ).bind (fun v7 => if v7 = (0:Int32) then (f_stands_51 σ) else (f_stands_47 σ)))))))) else (f_stands_51 σ)))
set_option maxRecDepth 20000 in
set_option maxHeartbeats 4000000 in
theorem N_stands_52 {p : Program} {l : Launch} {e : Env} {s : State} {m : MethodId} {args : Array Value} {below : List Frame} {meth : Method} {c : Code} {D : mD} {mb : Nat}   {y0 : Int32} {σ : mS} {ls : Array Slot} {r : Int32} (X : mX p s m args meth c cX12_stands 2 (some .boolean) D) (hP : mP D mb σ s.heap)  (hl : lv_has ls 2 [(0, .ref mb)]) (h : f_stands_52  y0 σ = some r) : mWr p l e 3 66 s m args below meth c (some (.int r)) (F0 m 52 ls [.int y0]) := by
  have hx := X.1
  have hb := X.2.1
  have hown := X.2.2.2.1
  have hts := X.2.2.2.2.1
  have h : (rz y0) = some r := h
  obtain ⟨hz, rfl⟩ := rz_spec h
  exact m_rz X hz dX12_stands_52
set_option maxRecDepth 20000 in
set_option maxHeartbeats 4000000 in
theorem N_stands_51 {p : Program} {l : Launch} {e : Env} {s : State} {m : MethodId} {args : Array Value} {below : List Frame} {meth : Method} {c : Code} {D : mD} {mb : Nat}    {σ : mS} {ls : Array Slot} {r : Int32} (X : mX p s m args meth c cX12_stands 2 (some .boolean) D) (hP : mP D mb σ s.heap)  (hl : lv_has ls 2 [(0, .ref mb)]) (h : f_stands_51   σ = some r) : mWr p l e 3 66 s m args below meth c (some (.int r)) (F0 m 51 ls []) := by
  have hx := X.1
  have hb := X.2.1
  have hown := X.2.2.2.1
  have hts := X.2.2.2.2.1
  have h : (f_stands_52 ((0:Int32)) σ) = some r := h
  refine lv_iconst (v := (0:Int32)) hx hb dX12_stands_51 (by decide) ?_
  exact N_stands_52 X hP (lv_sub hl [0] rfl) h
set_option maxRecDepth 20000 in
set_option maxHeartbeats 4000000 in
theorem N_stands_47 {p : Program} {l : Launch} {e : Env} {s : State} {m : MethodId} {args : Array Value} {below : List Frame} {meth : Method} {c : Code} {D : mD} {mb : Nat}    {σ : mS} {ls : Array Slot} {r : Int32} (X : mX p s m args meth c cX12_stands 2 (some .boolean) D) (hP : mP D mb σ s.heap)  (hl : lv_has ls 2 [(0, .ref mb)]) (h : f_stands_47   σ = some r) : mWr p l e 3 66 s m args below meth c (some (.int r)) (F0 m 47 ls []) := by
  have hx := X.1
  have hb := X.2.1
  have hown := X.2.2.2.1
  have hts := X.2.2.2.2.1
  have h : (f_stands_52 ((1:Int32)) σ) = some r := h
  refine lv_iconst (v := (1:Int32)) hx hb dX12_stands_47 (by decide) ?_
  refine lv_goto (tgt := 52) hx hb dX12_stands_48 rfl ?_
  exact N_stands_52 X hP (lv_sub hl [0] rfl) h
set_option maxRecDepth 20000 in
set_option maxHeartbeats 4000000 in
theorem K_stands (l : Launch) (D : mD) (mb : Nat) (σ : mS) (x1 : Int32) {r : Int32} (h : f_stands x1 σ = some r) : Met l yX12_stands (Cond.code yX12_stands cX12_stands 2 (some .boolean) :: BG) (rM 3 66) (mPc D mb σ [.int x1]) (mQr (some (.int r))) 0 0 (fun _ => False) := by
  refine Met.ofW (cc := cX12_stands) (maxL := 2) (ret := (some .boolean)) (by decide) rfl ?_
  intro p e s m args below meth c s₁ B hml hv
  obtain ⟨rfl, hP, hK⟩ := hv
  have X := mX_of B hml rfl hK
  have hx := X.1
  have hb := X.2.1
  have hown := X.2.2.2.1
  have hts := X.2.2.2.2.1
  have hl := lv_entry (.ref mb :: [.int x1]) (n := 2) (Nat.le_of_ble_eq_true rfl)
  rw [lg_entry_eq]
  generalize (lg_sl (.ref mb :: [.int x1]) ++ List.replicate (2 - (lg_sl (.ref mb :: [.int x1])).length) Slot.unset).toArray = ls at hl ⊢
  have hl : lv_has ls 2 [(0, .ref mb), (1, .int x1)] := hl
  show mWr p l e 3 66 s m (Value.ref mb :: [.int x1]).toArray below meth c (some (.int r)) (F0 m 0 ls [])
  have h : ((rd σ 32 x1).bind (fun v1 => (rd σ 30 v1).bind (fun v2 => if v2 = (1:Int32) then ((rd σ 32 x1).bind (fun v3 => (rd σ 28 v3).bind (fun v4 => if v4 < (0:Int32) then (f_stands_47 σ) else ((rd σ 32 x1).bind (fun v5 => (rd σ 28 v5).bind (fun v6 => (f_inDoc (v6) σ).bind (fun v7 => if v7 = (0:Int32) then (f_stands_51 σ) else (f_stands_47 σ)))))))) else (f_stands_51 σ)))) = some r := h
  refine lv_aload_n hx hb dX12_stands_0 rfl (lv_at hl 0 rfl) ?_
  refine mg_son X hP dX12_stands_1 ?_
  refine lv_aload_n hx hb dX12_stands_4 rfl (lv_at hl 0 rfl) ?_
  refine mg_rs X hP dX12_stands_5 ?_
  refine lv_iload_n hx hb dX12_stands_8 rfl (lv_at hl 1 rfl) ?_
  obtain ⟨v1, hv1, h⟩ := ob h
  refine m_ald X hP hv1 dX12_stands_9 ?_
  obtain ⟨v2, hv2, h⟩ := ob h
  refine m_ald X hP hv2 dX12_stands_10 ?_
  refine lv_iconst (v := (1:Int32)) hx hb dX12_stands_11 (by decide) ?_
  refine lv_icmp_ne (tgt := 51) hx hb dX12_stands_12 rfl (fun hc => ?_) (fun hc => ?_)
  · have h := ine hc h
    exact N_stands_51 X hP (lv_sub hl [0] rfl) h
  · have h := ip hc h
    refine lv_aload_n hx hb dX12_stands_15 rfl (lv_at hl 0 rfl) ?_
    refine mg_sh X hP dX12_stands_16 ?_
    refine lv_aload_n hx hb dX12_stands_19 rfl (lv_at hl 0 rfl) ?_
    refine mg_rs X hP dX12_stands_20 ?_
    refine lv_iload_n hx hb dX12_stands_23 rfl (lv_at hl 1 rfl) ?_
    obtain ⟨v3, hv3, h⟩ := ob h
    refine m_ald X hP hv3 dX12_stands_24 ?_
    obtain ⟨v4, hv4, h⟩ := ob h
    refine m_ald X hP hv4 dX12_stands_25 ?_
    refine lv_if_lt (tgt := 47) hx hb dX12_stands_26 rfl (fun hc => ?_) (fun hc => ?_)
    · have h := ip hc h
      exact N_stands_47 X hP (lv_sub hl [0] rfl) h
    · have h := ine hc h
      refine lv_aload_n hx hb dX12_stands_29 rfl (lv_at hl 0 rfl) ?_
      refine lv_aload_n hx hb dX12_stands_30 rfl (lv_at hl 0 rfl) ?_
      refine mg_sh X hP dX12_stands_31 ?_
      refine lv_aload_n hx hb dX12_stands_34 rfl (lv_at hl 0 rfl) ?_
      refine mg_rs X hP dX12_stands_35 ?_
      refine lv_iload_n hx hb dX12_stands_38 rfl (lv_at hl 1 rfl) ?_
      obtain ⟨v5, hv5, h⟩ := ob h
      refine m_ald X hP hv5 dX12_stands_39 ?_
      obtain ⟨v6, hv6, h⟩ := ob h
      refine m_ald X hP hv6 dX12_stands_40 ?_
      obtain ⟨v7, hv7, h⟩ := ob h
      refine cl_inDoc X hP hv7 ⟨Nat.le_of_ble_eq_true rfl, Nat.le_of_ble_eq_true rfl⟩ hl.1 (Nat.le_of_ble_eq_true rfl) dX12_stands_41 ?_
      refine lv_if_eq (tgt := 51) hx hb dX12_stands_44 rfl (fun hc => ?_) (fun hc => ?_)
      · have h := ip hc h
        exact N_stands_51 X hP (lv_sub hl [0] rfl) h
      · have h := ine hc h
        exact N_stands_47 X hP (lv_sub hl [0] rfl) h
theorem cl_stands {p : Program} {l : Launch} {e : Env} {s : State} {m : MethodId} {args : Array Value} {below : List Frame} {meth : Method} {c : Code} {D : mD} {mb : Nat} {H : Heap} {locs : List Loc} {Q : State → Prop} {cc : ByteArray} {pc fR lR nL : Nat} {ls : Array Slot} {rest : List Value} {ret : Option FieldType} {σ : mS} (X : mX p s m args meth c cc nL ret D) (hP : mP D mb σ H) {x1 : Int32} {r : Int32} (h : f_stands x1 σ = some r) (hr : 3 + 1 ≤ fR ∧ 8 + (2 + 11) + 66 ≤ lR) (hl : ls.size = nL) (hW : (rest.map fun v => v.category).sum ≤ 8) (hdg : decode cc pc = .ok (.invokevirtual 350, 3)) (kk : W p l e (rM fR lR) s m args below meth c H locs 0 0 Q (F0 m (pc + 3) ls (.int r :: rest))) : W p l e (rM fR lR) s m args below meth c H locs 0 0 Q (F0 m pc ls (.int x1 :: .ref mb :: rest)) := m_cr (m_run (n := 1) X (K_stands l D mb σ x1 h) ⟨w_2200, w_2202, w_120, w_2203⟩ (hyX rfl (by decide +kernel)) rfl hr hP hl hW hdg rfl) kk
-- winner(IIIIZ)I
def f_winner_151 (k40 : Int32 → Int32 → Int32 → Int32 → Int32 → Int32 → Int32 → Option (Int32)) (x1 : Int32) (x2 : Int32) (x3 : Int32) (x4 : Int32) (x5 : Int32) (x7 : Int32) (y0 : Int32) (σ : mS) : Option (Int32) := k40 (x1) (x2) (x3) (x4) (x5) (y0) ((x7 + (1:Int32)))
def f_winner_149 (k40 : Int32 → Int32 → Int32 → Int32 → Int32 → Int32 → Int32 → Option (Int32)) (x1 : Int32) (x2 : Int32) (x3 : Int32) (x4 : Int32) (x5 : Int32) (x6 : Int32) (x7 : Int32) (σ : mS) : Option (Int32) := f_winner_151 k40 (x1) (x2) (x3) (x4) (x5) (x7) (x6) σ
def f_winner_144 (k40 : Int32 → Int32 → Int32 → Int32 → Int32 → Int32 → Int32 → Option (Int32)) (x1 : Int32) (x2 : Int32) (x3 : Int32) (x4 : Int32) (x5 : Int32) (x7 : Int32) (x8 : Int32) (σ : mS) : Option (Int32) := f_winner_151 k40 (x1) (x2) (x3) (x4) (x5) (x7) (x8) σ
def f_winner_121 (k40 : Int32 → Int32 → Int32 → Int32 → Int32 → Int32 → Int32 → Option (Int32)) (x1 : Int32) (x2 : Int32) (x3 : Int32) (x4 : Int32) (x5 : Int32) (x6 : Int32) (x7 : Int32) (x8 : Int32) (y0 : Int32) (σ : mS) : Option (Int32) := if y0 = (0:Int32) then (f_winner_149 k40 (x1) (x2) (x3) (x4) (x5) (x6) (x7) σ) else (if x6 < (0:Int32) then (f_winner_144 k40 (x1) (x2) (x3) (x4) (x5) (x7) (x8) σ) else ((f_against (x8) (x6) σ).bind (fun v1 => if v1 ≤ (0:Int32) then (f_winner_149 k40 (x1) (x2) (x3) (x4) (x5) (x6) (x7) σ) else (f_winner_144 k40 (x1) (x2) (x3) (x4) (x5) (x7) (x8) σ))))
def f_winner_120 (k40 : Int32 → Int32 → Int32 → Int32 → Int32 → Int32 → Int32 → Option (Int32)) (x1 : Int32) (x2 : Int32) (x3 : Int32) (x4 : Int32) (x5 : Int32) (x6 : Int32) (x7 : Int32) (x8 : Int32) (σ : mS) : Option (Int32) := f_winner_121 k40 (x1) (x2) (x3) (x4) (x5) (x6) (x7) (x8) ((0:Int32)) σ
def f_winner_40  : Nat → Int32 → Int32 → Int32 → Int32 → Int32 → Int32 → Int32 → mS → Option (Int32)
  | 0, _, _, _, _, _, _, _, _ => none
  | n + 1, x1, x2, x3, x4, x5, x6, x7, σ => if (σ.2 36) ≤ x7 then (some x6) else ((rd σ 37 (((16:Int32) * x7) + x2)).bind (fun v1 => if v1 < (0:Int32) then (f_winner_120 (fun z0 z1 z2 z3 z4 z5 z6 => f_winner_40 n z0 z1 z2 z3 z4 z5 z6 σ) (x1) (x2) (x3) (x4) (x5) (x6) (x7) ((((16:Int32) * x7) + x2)) σ) else ((f_originOf ((((16:Int32) * x7) + x2)) σ).bind (fun v2 => if x3 ≤ v2 then (f_winner_120 (fun z0 z1 z2 z3 z4 z5 z6 => f_winner_40 n z0 z1 z2 z3 z4 z5 z6 σ) (x1) (x2) (x3) (x4) (x5) (x6) (x7) ((((16:Int32) * x7) + x2)) σ) else ((rd σ 74 x7).bind (fun v3 => (f_bit (v3) (x1)).bind (fun v4 => if v4 = (0:Int32) then (f_winner_120 (fun z0 z1 z2 z3 z4 z5 z6 => f_winner_40 n z0 z1 z2 z3 z4 z5 z6 σ) (x1) (x2) (x3) (x4) (x5) (x6) (x7) ((((16:Int32) * x7) + x2)) σ) else ((f_stands (x7) σ).bind (fun v5 => if v5 = (0:Int32) then (f_winner_120 (fun z0 z1 z2 z3 z4 z5 z6 => f_winner_40 n z0 z1 z2 z3 z4 z5 z6 σ) (x1) (x2) (x3) (x4) (x5) (x6) (x7) ((((16:Int32) * x7) + x2)) σ) else ((f_fits (x7) (x1) (x4) (x5) σ).bind (fun v6 => if v6 = (0:Int32) then (f_winner_120 (fun z0 z1 z2 z3 z4 z5 z6 => f_winner_40 n z0 z1 z2 z3 z4 z5 z6 σ) (x1) (x2) (x3) (x4) (x5) (x6) (x7) ((((16:Int32) * x7) + x2)) σ) else (f_winner_121 (fun z0 z1 z2 z3 z4 z5 z6 => f_winner_40 n z0 z1 z2 z3 z4 z5 z6 σ) (x1) (x2) (x3) (x4) (x5) (x6) (x7) ((((16:Int32) * x7) + x2)) ((1:Int32)) σ))))))))))))
def f_winner_35  (x1 : Int32) (x2 : Int32) (x3 : Int32) (x4 : Int32) (x5 : Int32) (y0 : Int32) (σ : mS) : Option (Int32) := f_winner_40 4000 (x1) (x2) (x3) (x4) (x5) (y0) ((0:Int32)) σ
def f_winner_34  (x1 : Int32) (x2 : Int32) (x3 : Int32) (x4 : Int32) (x5 : Int32) (σ : mS) : Option (Int32) := f_winner_35 (x1) (x2) (x3) (x4) (x5) (((-1):Int32)) σ
def f_winner (x1 : Int32) (x2 : Int32) (x3 : Int32) (x4 : Int32) (x5 : Int32) (σ : mS) : Option (Int32) := (rd σ 37 (((16:Int32) * ((40:Int32) + x1)) + x2)).bind (fun v1 => if v1 < (0:Int32) then (f_winner_34 (x1) (x2) (x3) (x4) (x5) σ) else (if x3 ≤ (2:Int32) then (f_winner_34 (x1) (x2) (x3) (x4) (x5) σ) else (f_winner_35 (x1) (x2) (x3) (x4) (x5) ((((16:Int32) * ((40:Int32) + x1)) + x2)) σ)))
set_option maxRecDepth 20000 in
set_option maxHeartbeats 4000000 in
theorem N_winner_151 {p : Program} {l : Launch} {e : Env} {s : State} {m : MethodId} {args : Array Value} {below : List Frame} {meth : Method} {c : Code} {D : mD} {mb : Nat} {k40 : Int32 → Int32 → Int32 → Int32 → Int32 → Int32 → Int32 → Option (Int32)}  {x1 : Int32} {x2 : Int32} {x3 : Int32} {x4 : Int32} {x5 : Int32} {x7 : Int32} {y0 : Int32} {σ : mS} {ls : Array Slot} {r : Int32} (X : mX p s m args meth c cX12_winner 10 (some .int) D) (hP : mP D mb σ s.heap) (hk40 : ∀ {x1 : Int32} {x2 : Int32} {x3 : Int32} {x4 : Int32} {x5 : Int32} {x6 : Int32} {x7 : Int32} {ls : Array Slot}, lv_has ls 10 [(0, .ref mb), (1, .int x1), (2, .int x2), (3, .int x3), (4, .int x4), (5, .int x5), (6, .int x6), (7, .int x7)] → k40 x1 x2 x3 x4 x5 x6 x7 = some r → mWr p l e 5 113 s m args below meth c (some (.int r)) (F0 m 40 ls [])) (hl : lv_has ls 10 [(0, .ref mb), (1, .int x1), (2, .int x2), (3, .int x3), (4, .int x4), (5, .int x5), (7, .int x7)]) (h : f_winner_151 k40 x1 x2 x3 x4 x5 x7 y0 σ = some r) : mWr p l e 5 113 s m args below meth c (some (.int r)) (F0 m 151 ls [.int y0]) := by
  have hx := X.1
  have hb := X.2.1
  have hown := X.2.2.2.1
  have hts := X.2.2.2.2.1
  have h : (k40 (x1) (x2) (x3) (x4) (x5) (y0) ((x7 + (1:Int32)))) = some r := h
  refine lv_istore hx hb dX12_winner_151 hl (Nat.le_of_ble_eq_true rfl) rfl (fun ls (hl : lv_has ls 10 [(6, .int y0), (0, .ref mb), (1, .int x1), (2, .int x2), (3, .int x3), (4, .int x4), (5, .int x5), (7, .int x7)]) => ?_)
  refine lv_iinc (v := (x7 + (1:Int32))) hx hb dX12_winner_153 hl (k := 7) rfl rfl (Nat.le_of_ble_eq_true rfl) rfl (fun ls (hl : lv_has ls 10 [(7, .int (x7 + (1:Int32))), (6, .int y0), (0, .ref mb), (1, .int x1), (2, .int x2), (3, .int x3), (4, .int x4), (5, .int x5)]) => ?_)
  refine lv_goto (tgt := 40) hx hb dX12_winner_156 rfl ?_
  exact hk40 (lv_sub hl [2, 3, 4, 5, 6, 7, 1, 0] rfl) h
set_option maxRecDepth 20000 in
set_option maxHeartbeats 4000000 in
theorem N_winner_149 {p : Program} {l : Launch} {e : Env} {s : State} {m : MethodId} {args : Array Value} {below : List Frame} {meth : Method} {c : Code} {D : mD} {mb : Nat} {k40 : Int32 → Int32 → Int32 → Int32 → Int32 → Int32 → Int32 → Option (Int32)}  {x1 : Int32} {x2 : Int32} {x3 : Int32} {x4 : Int32} {x5 : Int32} {x6 : Int32} {x7 : Int32} {σ : mS} {ls : Array Slot} {r : Int32} (X : mX p s m args meth c cX12_winner 10 (some .int) D) (hP : mP D mb σ s.heap) (hk40 : ∀ {x1 : Int32} {x2 : Int32} {x3 : Int32} {x4 : Int32} {x5 : Int32} {x6 : Int32} {x7 : Int32} {ls : Array Slot}, lv_has ls 10 [(0, .ref mb), (1, .int x1), (2, .int x2), (3, .int x3), (4, .int x4), (5, .int x5), (6, .int x6), (7, .int x7)] → k40 x1 x2 x3 x4 x5 x6 x7 = some r → mWr p l e 5 113 s m args below meth c (some (.int r)) (F0 m 40 ls [])) (hl : lv_has ls 10 [(0, .ref mb), (1, .int x1), (2, .int x2), (3, .int x3), (4, .int x4), (5, .int x5), (6, .int x6), (7, .int x7)]) (h : f_winner_149 k40 x1 x2 x3 x4 x5 x6 x7 σ = some r) : mWr p l e 5 113 s m args below meth c (some (.int r)) (F0 m 149 ls []) := by
  have hx := X.1
  have hb := X.2.1
  have hown := X.2.2.2.1
  have hts := X.2.2.2.2.1
  have h : (f_winner_151 k40 (x1) (x2) (x3) (x4) (x5) (x7) (x6) σ) = some r := h
  refine lv_iload hx hb dX12_winner_149 (lv_at hl 6 rfl) ?_
  exact N_winner_151 X hP hk40 (lv_sub hl [0, 1, 2, 3, 4, 5, 7] rfl) h
set_option maxRecDepth 20000 in
set_option maxHeartbeats 4000000 in
theorem N_winner_144 {p : Program} {l : Launch} {e : Env} {s : State} {m : MethodId} {args : Array Value} {below : List Frame} {meth : Method} {c : Code} {D : mD} {mb : Nat} {k40 : Int32 → Int32 → Int32 → Int32 → Int32 → Int32 → Int32 → Option (Int32)}  {x1 : Int32} {x2 : Int32} {x3 : Int32} {x4 : Int32} {x5 : Int32} {x7 : Int32} {x8 : Int32} {σ : mS} {ls : Array Slot} {r : Int32} (X : mX p s m args meth c cX12_winner 10 (some .int) D) (hP : mP D mb σ s.heap) (hk40 : ∀ {x1 : Int32} {x2 : Int32} {x3 : Int32} {x4 : Int32} {x5 : Int32} {x6 : Int32} {x7 : Int32} {ls : Array Slot}, lv_has ls 10 [(0, .ref mb), (1, .int x1), (2, .int x2), (3, .int x3), (4, .int x4), (5, .int x5), (6, .int x6), (7, .int x7)] → k40 x1 x2 x3 x4 x5 x6 x7 = some r → mWr p l e 5 113 s m args below meth c (some (.int r)) (F0 m 40 ls [])) (hl : lv_has ls 10 [(0, .ref mb), (1, .int x1), (2, .int x2), (3, .int x3), (4, .int x4), (5, .int x5), (7, .int x7), (8, .int x8)]) (h : f_winner_144 k40 x1 x2 x3 x4 x5 x7 x8 σ = some r) : mWr p l e 5 113 s m args below meth c (some (.int r)) (F0 m 144 ls []) := by
  have hx := X.1
  have hb := X.2.1
  have hown := X.2.2.2.1
  have hts := X.2.2.2.2.1
  have h : (f_winner_151 k40 (x1) (x2) (x3) (x4) (x5) (x7) (x8) σ) = some r := h
  refine lv_iload hx hb dX12_winner_144 (lv_at hl 7 rfl) ?_
  refine lv_goto (tgt := 151) hx hb dX12_winner_146 rfl ?_
  exact N_winner_151 X hP hk40 (lv_sub hl [0, 1, 2, 3, 4, 5, 6] rfl) h
set_option maxRecDepth 20000 in
set_option maxHeartbeats 4000000 in
theorem N_winner_121 {p : Program} {l : Launch} {e : Env} {s : State} {m : MethodId} {args : Array Value} {below : List Frame} {meth : Method} {c : Code} {D : mD} {mb : Nat} {k40 : Int32 → Int32 → Int32 → Int32 → Int32 → Int32 → Int32 → Option (Int32)}  {x1 : Int32} {x2 : Int32} {x3 : Int32} {x4 : Int32} {x5 : Int32} {x6 : Int32} {x7 : Int32} {x8 : Int32} {y0 : Int32} {σ : mS} {ls : Array Slot} {r : Int32} (X : mX p s m args meth c cX12_winner 10 (some .int) D) (hP : mP D mb σ s.heap) (hk40 : ∀ {x1 : Int32} {x2 : Int32} {x3 : Int32} {x4 : Int32} {x5 : Int32} {x6 : Int32} {x7 : Int32} {ls : Array Slot}, lv_has ls 10 [(0, .ref mb), (1, .int x1), (2, .int x2), (3, .int x3), (4, .int x4), (5, .int x5), (6, .int x6), (7, .int x7)] → k40 x1 x2 x3 x4 x5 x6 x7 = some r → mWr p l e 5 113 s m args below meth c (some (.int r)) (F0 m 40 ls [])) (hl : lv_has ls 10 [(0, .ref mb), (1, .int x1), (2, .int x2), (3, .int x3), (4, .int x4), (5, .int x5), (6, .int x6), (7, .int x7), (8, .int x8)]) (h : f_winner_121 k40 x1 x2 x3 x4 x5 x6 x7 x8 y0 σ = some r) : mWr p l e 5 113 s m args below meth c (some (.int r)) (F0 m 121 ls [.int y0]) := by
  have hx := X.1
  have hb := X.2.1
  have hown := X.2.2.2.1
  have hts := X.2.2.2.2.1
  have h : (if y0 = (0:Int32) then (f_winner_149 k40 (x1) (x2) (x3) (x4) (x5) (x6) (x7) σ) else (if x6 < (0:Int32) then (f_winner_144 k40 (x1) (x2) (x3) (x4) (x5) (x7) (x8) σ) else ((f_against (x8) (x6) σ).bind (fun v1 => if v1 ≤ (0:Int32) then (f_winner_149 k40 (x1) (x2) (x3) (x4) (x5) (x6) (x7) σ) else (f_winner_144 k40 (x1) (x2) (x3) (x4) (x5) (x7) (x8) σ))))) = some r := h
  refine lv_istore hx hb dX12_winner_121 hl (Nat.le_of_ble_eq_true rfl) rfl (fun ls (hl : lv_has ls 10 [(9, .int y0), (0, .ref mb), (1, .int x1), (2, .int x2), (3, .int x3), (4, .int x4), (5, .int x5), (6, .int x6), (7, .int x7), (8, .int x8)]) => ?_)
  refine lv_iload hx hb dX12_winner_123 (lv_at hl 0 rfl) ?_
  refine lv_if_eq (tgt := 149) hx hb dX12_winner_125 rfl (fun hc => ?_) (fun hc => ?_)
  · have h := ip hc h
    exact N_winner_149 X hP hk40 (lv_sub hl [1, 2, 3, 4, 5, 6, 7, 8] rfl) h
  · have h := ine hc h
    refine lv_iload hx hb dX12_winner_128 (lv_at hl 7 rfl) ?_
    refine lv_if_lt (tgt := 144) hx hb dX12_winner_130 rfl (fun hc => ?_) (fun hc => ?_)
    · have h := ip hc h
      exact N_winner_144 X hP hk40 (lv_sub hl [1, 2, 3, 4, 5, 6, 8, 9] rfl) h
    · have h := ine hc h
      refine lv_aload_n hx hb dX12_winner_133 rfl (lv_at hl 1 rfl) ?_
      refine lv_iload hx hb dX12_winner_134 (lv_at hl 9 rfl) ?_
      refine lv_iload hx hb dX12_winner_136 (lv_at hl 7 rfl) ?_
      obtain ⟨v1, hv1, h⟩ := ob h
      refine cl_against X hP hv1 ⟨Nat.le_of_ble_eq_true rfl, Nat.le_of_ble_eq_true rfl⟩ hl.1 (Nat.le_of_ble_eq_true rfl) dX12_winner_138 ?_
      refine lv_if_le (tgt := 149) hx hb dX12_winner_141 rfl (fun hc => ?_) (fun hc => ?_)
      · have h := ip hc h
        exact N_winner_149 X hP hk40 (lv_sub hl [1, 2, 3, 4, 5, 6, 7, 8] rfl) h
      · have h := ine hc h
        exact N_winner_144 X hP hk40 (lv_sub hl [1, 2, 3, 4, 5, 6, 8, 9] rfl) h
set_option maxRecDepth 20000 in
set_option maxHeartbeats 4000000 in
theorem N_winner_120 {p : Program} {l : Launch} {e : Env} {s : State} {m : MethodId} {args : Array Value} {below : List Frame} {meth : Method} {c : Code} {D : mD} {mb : Nat} {k40 : Int32 → Int32 → Int32 → Int32 → Int32 → Int32 → Int32 → Option (Int32)}  {x1 : Int32} {x2 : Int32} {x3 : Int32} {x4 : Int32} {x5 : Int32} {x6 : Int32} {x7 : Int32} {x8 : Int32} {σ : mS} {ls : Array Slot} {r : Int32} (X : mX p s m args meth c cX12_winner 10 (some .int) D) (hP : mP D mb σ s.heap) (hk40 : ∀ {x1 : Int32} {x2 : Int32} {x3 : Int32} {x4 : Int32} {x5 : Int32} {x6 : Int32} {x7 : Int32} {ls : Array Slot}, lv_has ls 10 [(0, .ref mb), (1, .int x1), (2, .int x2), (3, .int x3), (4, .int x4), (5, .int x5), (6, .int x6), (7, .int x7)] → k40 x1 x2 x3 x4 x5 x6 x7 = some r → mWr p l e 5 113 s m args below meth c (some (.int r)) (F0 m 40 ls [])) (hl : lv_has ls 10 [(0, .ref mb), (1, .int x1), (2, .int x2), (3, .int x3), (4, .int x4), (5, .int x5), (6, .int x6), (7, .int x7), (8, .int x8)]) (h : f_winner_120 k40 x1 x2 x3 x4 x5 x6 x7 x8 σ = some r) : mWr p l e 5 113 s m args below meth c (some (.int r)) (F0 m 120 ls []) := by
  have hx := X.1
  have hb := X.2.1
  have hown := X.2.2.2.1
  have hts := X.2.2.2.2.1
  have h : (f_winner_121 k40 (x1) (x2) (x3) (x4) (x5) (x6) (x7) (x8) ((0:Int32)) σ) = some r := h
  refine lv_iconst (v := (0:Int32)) hx hb dX12_winner_120 (by decide) ?_
  exact N_winner_121 X hP hk40 (lv_sub hl [0, 1, 2, 3, 4, 5, 6, 7, 8] rfl) h
set_option maxRecDepth 20000 in
set_option maxHeartbeats 4000000 in
theorem N_winner_40 {p : Program} {l : Launch} {e : Env} {s : State} {m : MethodId} {args : Array Value} {below : List Frame} {meth : Method} {c : Code} {D : mD} {mb : Nat}  {n : Nat} {x1 : Int32} {x2 : Int32} {x3 : Int32} {x4 : Int32} {x5 : Int32} {x6 : Int32} {x7 : Int32} {σ : mS} {ls : Array Slot} {r : Int32} (X : mX p s m args meth c cX12_winner 10 (some .int) D) (hP : mP D mb σ s.heap)  (hl : lv_has ls 10 [(0, .ref mb), (1, .int x1), (2, .int x2), (3, .int x3), (4, .int x4), (5, .int x5), (6, .int x6), (7, .int x7)]) (h : f_winner_40  n x1 x2 x3 x4 x5 x6 x7 σ = some r) : mWr p l e 5 113 s m args below meth c (some (.int r)) (F0 m 40 ls []) := by
  have hx := X.1
  have hb := X.2.1
  have hown := X.2.2.2.1
  have hts := X.2.2.2.2.1
  induction n generalizing x1 x2 x3 x4 x5 x6 x7 ls with
  | zero => exact absurd (show none = some r from h) (by simp)
  | succ n ih =>
    have h : (if (σ.2 36) ≤ x7 then (some x6) else ((rd σ 37 (((16:Int32) * x7) + x2)).bind (fun v1 => if v1 < (0:Int32) then (f_winner_120 (fun z0 z1 z2 z3 z4 z5 z6 => f_winner_40 n z0 z1 z2 z3 z4 z5 z6 σ) (x1) (x2) (x3) (x4) (x5) (x6) (x7) ((((16:Int32) * x7) + x2)) σ) else ((f_originOf ((((16:Int32) * x7) + x2)) σ).bind (fun v2 => if x3 ≤ v2 then (f_winner_120 (fun z0 z1 z2 z3 z4 z5 z6 => f_winner_40 n z0 z1 z2 z3 z4 z5 z6 σ) (x1) (x2) (x3) (x4) (x5) (x6) (x7) ((((16:Int32) * x7) + x2)) σ) else ((rd σ 74 x7).bind (fun v3 => (f_bit (v3) (x1)).bind (fun v4 => if v4 = (0:Int32) then (f_winner_120 (fun z0 z1 z2 z3 z4 z5 z6 => f_winner_40 n z0 z1 z2 z3 z4 z5 z6 σ) (x1) (x2) (x3) (x4) (x5) (x6) (x7) ((((16:Int32) * x7) + x2)) σ) else ((f_stands (x7) σ).bind (fun v5 => if v5 = (0:Int32) then (f_winner_120 (fun z0 z1 z2 z3 z4 z5 z6 => f_winner_40 n z0 z1 z2 z3 z4 z5 z6 σ) (x1) (x2) (x3) (x4) (x5) (x6) (x7) ((((16:Int32) * x7) + x2)) σ) else ((f_fits (x7) (x1) (x4) (x5) σ).bind (fun v6 => if v6 = (0:Int32) then (f_winner_120 (fun z0 z1 z2 z3 z4 z5 z6 => f_winner_40 n z0 z1 z2 z3 z4 z5 z6 σ) (x1) (x2) (x3) (x4) (x5) (x6) (x7) ((((16:Int32) * x7) + x2)) σ) else (f_winner_121 (fun z0 z1 z2 z3 z4 z5 z6 => f_winner_40 n z0 z1 z2 z3 z4 z5 z6 σ) (x1) (x2) (x3) (x4) (x5) (x6) (x7) ((((16:Int32) * x7) + x2)) ((1:Int32)) σ))))))))))))) = some r := h
    refine lv_iload hx hb dX12_winner_40 (lv_at hl 7 rfl) ?_
    refine lv_aload_n hx hb dX12_winner_42 rfl (lv_at hl 0 rfl) ?_
    refine mg_rules X hP dX12_winner_43 ?_
    refine lv_icmp_ge (tgt := 159) hx hb dX12_winner_46 rfl (fun hc => ?_) (fun hc => ?_)
    · have h := ip hc h
      refine lv_iload hx hb dX12_winner_159 (lv_at hl 6 rfl) ?_
      obtain rfl := sj h
      exact m_ri X dX12_winner_161
    · have h := ine hc h
      refine lv_bipush (v := (16:Int32)) hx hb dX12_winner_49 (by decide) ?_
      refine lv_iload hx hb dX12_winner_51 (lv_at hl 7 rfl) ?_
      refine lv_imul hx hb dX12_winner_53 ?_
      refine lv_iload_n hx hb dX12_winner_54 rfl (lv_at hl 2 rfl) ?_
      refine lv_iadd hx hb dX12_winner_55 ?_
      refine lv_istore hx hb dX12_winner_56 hl (Nat.le_of_ble_eq_true rfl) rfl (fun ls (hl : lv_has ls 10 [(8, .int (((16:Int32) * x7) + x2)), (0, .ref mb), (1, .int x1), (2, .int x2), (3, .int x3), (4, .int x4), (5, .int x5), (6, .int x6), (7, .int x7)]) => ?_)
      refine lv_aload_n hx hb dX12_winner_58 rfl (lv_at hl 1 rfl) ?_
      refine mg_du X hP dX12_winner_59 ?_
      refine lv_iload hx hb dX12_winner_62 (lv_at hl 0 rfl) ?_
      obtain ⟨v1, hv1, h⟩ := ob h
      refine m_ald X hP hv1 dX12_winner_64 ?_
      refine lv_if_lt (tgt := 120) hx hb dX12_winner_65 rfl (fun hc => ?_) (fun hc => ?_)
      · have h := ip hc h
        exact N_winner_120 X hP ih (lv_sub hl [1, 2, 3, 4, 5, 6, 7, 8, 0] rfl) h
      · have h := ine hc h
        refine lv_aload_n hx hb dX12_winner_68 rfl (lv_at hl 1 rfl) ?_
        refine lv_iload hx hb dX12_winner_69 (lv_at hl 0 rfl) ?_
        obtain ⟨v2, hv2, h⟩ := ob h
        refine cl_originOf X hP hv2 ⟨Nat.le_of_ble_eq_true rfl, Nat.le_of_ble_eq_true rfl⟩ hl.1 (Nat.le_of_ble_eq_true rfl) dX12_winner_71 ?_
        refine lv_iload_n hx hb dX12_winner_74 rfl (lv_at hl 4 rfl) ?_
        refine lv_icmp_ge (tgt := 120) hx hb dX12_winner_75 rfl (fun hc => ?_) (fun hc => ?_)
        · have h := ip hc h
          exact N_winner_120 X hP ih (lv_sub hl [1, 2, 3, 4, 5, 6, 7, 8, 0] rfl) h
        · have h := ine hc h
          refine lv_aload_n hx hb dX12_winner_78 rfl (lv_at hl 1 rfl) ?_
          refine lv_aload_n hx hb dX12_winner_79 rfl (lv_at hl 1 rfl) ?_
          refine mg_hit X hP dX12_winner_80 ?_
          refine lv_iload hx hb dX12_winner_83 (lv_at hl 8 rfl) ?_
          obtain ⟨v3, hv3, h⟩ := ob h
          refine m_ald X hP hv3 dX12_winner_85 ?_
          refine lv_iload_n hx hb dX12_winner_86 rfl (lv_at hl 2 rfl) ?_
          obtain ⟨v4, hv4, h⟩ := ob h
          refine cl_bit X hP hv4 ⟨Nat.le_of_ble_eq_true rfl, Nat.le_of_ble_eq_true rfl⟩ hl.1 (Nat.le_of_ble_eq_true rfl) dX12_winner_87 ?_
          refine lv_if_eq (tgt := 120) hx hb dX12_winner_90 rfl (fun hc => ?_) (fun hc => ?_)
          · have h := ip hc h
            exact N_winner_120 X hP ih (lv_sub hl [1, 2, 3, 4, 5, 6, 7, 8, 0] rfl) h
          · have h := ine hc h
            refine lv_aload_n hx hb dX12_winner_93 rfl (lv_at hl 1 rfl) ?_
            refine lv_iload hx hb dX12_winner_94 (lv_at hl 8 rfl) ?_
            obtain ⟨v5, hv5, h⟩ := ob h
            refine cl_stands X hP hv5 ⟨Nat.le_of_ble_eq_true rfl, Nat.le_of_ble_eq_true rfl⟩ hl.1 (Nat.le_of_ble_eq_true rfl) dX12_winner_96 ?_
            refine lv_if_eq (tgt := 120) hx hb dX12_winner_99 rfl (fun hc => ?_) (fun hc => ?_)
            · have h := ip hc h
              exact N_winner_120 X hP ih (lv_sub hl [1, 2, 3, 4, 5, 6, 7, 8, 0] rfl) h
            · have h := ine hc h
              refine lv_aload_n hx hb dX12_winner_102 rfl (lv_at hl 1 rfl) ?_
              refine lv_iload hx hb dX12_winner_103 (lv_at hl 8 rfl) ?_
              refine lv_iload_n hx hb dX12_winner_105 rfl (lv_at hl 2 rfl) ?_
              refine lv_iload hx hb dX12_winner_106 (lv_at hl 5 rfl) ?_
              refine lv_iload hx hb dX12_winner_108 (lv_at hl 6 rfl) ?_
              obtain ⟨v6, hv6, h⟩ := ob h
              refine cl_fits X hP hv6 ⟨Nat.le_of_ble_eq_true rfl, Nat.le_of_ble_eq_true rfl⟩ hl.1 (Nat.le_of_ble_eq_true rfl) dX12_winner_110 ?_
              refine lv_if_eq (tgt := 120) hx hb dX12_winner_113 rfl (fun hc => ?_) (fun hc => ?_)
              · have h := ip hc h
                exact N_winner_120 X hP ih (lv_sub hl [1, 2, 3, 4, 5, 6, 7, 8, 0] rfl) h
              · have h := ine hc h
                refine lv_iconst (v := (1:Int32)) hx hb dX12_winner_116 (by decide) ?_
                refine lv_goto (tgt := 121) hx hb dX12_winner_117 rfl ?_
                exact N_winner_121 X hP ih (lv_sub hl [1, 2, 3, 4, 5, 6, 7, 8, 0] rfl) h
set_option maxRecDepth 20000 in
set_option maxHeartbeats 4000000 in
theorem N_winner_35 {p : Program} {l : Launch} {e : Env} {s : State} {m : MethodId} {args : Array Value} {below : List Frame} {meth : Method} {c : Code} {D : mD} {mb : Nat}   {x1 : Int32} {x2 : Int32} {x3 : Int32} {x4 : Int32} {x5 : Int32} {y0 : Int32} {σ : mS} {ls : Array Slot} {r : Int32} (X : mX p s m args meth c cX12_winner 10 (some .int) D) (hP : mP D mb σ s.heap)  (hl : lv_has ls 10 [(0, .ref mb), (1, .int x1), (2, .int x2), (3, .int x3), (4, .int x4), (5, .int x5)]) (h : f_winner_35  x1 x2 x3 x4 x5 y0 σ = some r) : mWr p l e 5 113 s m args below meth c (some (.int r)) (F0 m 35 ls [.int y0]) := by
  have hx := X.1
  have hb := X.2.1
  have hown := X.2.2.2.1
  have hts := X.2.2.2.2.1
  have h : (f_winner_40 4000 (x1) (x2) (x3) (x4) (x5) (y0) ((0:Int32)) σ) = some r := h
  refine lv_istore hx hb dX12_winner_35 hl (Nat.le_of_ble_eq_true rfl) rfl (fun ls (hl : lv_has ls 10 [(6, .int y0), (0, .ref mb), (1, .int x1), (2, .int x2), (3, .int x3), (4, .int x4), (5, .int x5)]) => ?_)
  refine lv_iconst (v := (0:Int32)) hx hb dX12_winner_37 (by decide) ?_
  refine lv_istore hx hb dX12_winner_38 hl (Nat.le_of_ble_eq_true rfl) rfl (fun ls (hl : lv_has ls 10 [(7, .int (0:Int32)), (6, .int y0), (0, .ref mb), (1, .int x1), (2, .int x2), (3, .int x3), (4, .int x4), (5, .int x5)]) => ?_)
  exact N_winner_40 X hP (lv_sub hl [2, 3, 4, 5, 6, 7, 1, 0] rfl) h
set_option maxRecDepth 20000 in
set_option maxHeartbeats 4000000 in
theorem N_winner_34 {p : Program} {l : Launch} {e : Env} {s : State} {m : MethodId} {args : Array Value} {below : List Frame} {meth : Method} {c : Code} {D : mD} {mb : Nat}   {x1 : Int32} {x2 : Int32} {x3 : Int32} {x4 : Int32} {x5 : Int32} {σ : mS} {ls : Array Slot} {r : Int32} (X : mX p s m args meth c cX12_winner 10 (some .int) D) (hP : mP D mb σ s.heap)  (hl : lv_has ls 10 [(0, .ref mb), (1, .int x1), (2, .int x2), (3, .int x3), (4, .int x4), (5, .int x5)]) (h : f_winner_34  x1 x2 x3 x4 x5 σ = some r) : mWr p l e 5 113 s m args below meth c (some (.int r)) (F0 m 34 ls []) := by
  have hx := X.1
  have hb := X.2.1
  have hown := X.2.2.2.1
  have hts := X.2.2.2.2.1
  have h : (f_winner_35 (x1) (x2) (x3) (x4) (x5) (((-1):Int32)) σ) = some r := h
  refine lv_iconst (v := ((-1):Int32)) hx hb dX12_winner_34 (by decide) ?_
  exact N_winner_35 X hP (lv_sub hl [0, 1, 2, 3, 4, 5] rfl) h
set_option maxRecDepth 20000 in
set_option maxHeartbeats 4000000 in
theorem K_winner (l : Launch) (D : mD) (mb : Nat) (σ : mS) (x1 : Int32) (x2 : Int32) (x3 : Int32) (x4 : Int32) (x5 : Int32) {r : Int32} (h : f_winner x1 x2 x3 x4 x5 σ = some r) : Met l yX12_winner (Cond.code yX12_winner cX12_winner 10 (some .int) :: BG) (rM 5 113) (mPc D mb σ [.int x1, .int x2, .int x3, .int x4, .int x5]) (mQr (some (.int r))) 0 0 (fun _ => False) := by
  refine Met.ofW (cc := cX12_winner) (maxL := 10) (ret := (some .int)) (by decide) rfl ?_
  intro p e s m args below meth c s₁ B hml hv
  obtain ⟨rfl, hP, hK⟩ := hv
  have X := mX_of B hml rfl hK
  have hx := X.1
  have hb := X.2.1
  have hown := X.2.2.2.1
  have hts := X.2.2.2.2.1
  have hl := lv_entry (.ref mb :: [.int x1, .int x2, .int x3, .int x4, .int x5]) (n := 10) (Nat.le_of_ble_eq_true rfl)
  rw [lg_entry_eq]
  generalize (lg_sl (.ref mb :: [.int x1, .int x2, .int x3, .int x4, .int x5]) ++ List.replicate (10 - (lg_sl (.ref mb :: [.int x1, .int x2, .int x3, .int x4, .int x5])).length) Slot.unset).toArray = ls at hl ⊢
  have hl : lv_has ls 10 [(0, .ref mb), (1, .int x1), (2, .int x2), (3, .int x3), (4, .int x4), (5, .int x5)] := hl
  show mWr p l e 5 113 s m (Value.ref mb :: [.int x1, .int x2, .int x3, .int x4, .int x5]).toArray below meth c (some (.int r)) (F0 m 0 ls [])
  have h : ((rd σ 37 (((16:Int32) * ((40:Int32) + x1)) + x2)).bind (fun v1 => if v1 < (0:Int32) then (f_winner_34 (x1) (x2) (x3) (x4) (x5) σ) else (if x3 ≤ (2:Int32) then (f_winner_34 (x1) (x2) (x3) (x4) (x5) σ) else (f_winner_35 (x1) (x2) (x3) (x4) (x5) ((((16:Int32) * ((40:Int32) + x1)) + x2)) σ)))) = some r := h
  refine lv_aload_n hx hb dX12_winner_0 rfl (lv_at hl 0 rfl) ?_
  refine mg_du X hP dX12_winner_1 ?_
  refine lv_bipush (v := (16:Int32)) hx hb dX12_winner_4 (by decide) ?_
  refine lv_bipush (v := (40:Int32)) hx hb dX12_winner_6 (by decide) ?_
  refine lv_iload_n hx hb dX12_winner_8 rfl (lv_at hl 1 rfl) ?_
  refine lv_iadd hx hb dX12_winner_9 ?_
  refine lv_imul hx hb dX12_winner_10 ?_
  refine lv_iload_n hx hb dX12_winner_11 rfl (lv_at hl 2 rfl) ?_
  refine lv_iadd hx hb dX12_winner_12 ?_
  obtain ⟨v1, hv1, h⟩ := ob h
  refine m_ald X hP hv1 dX12_winner_13 ?_
  refine lv_if_lt (tgt := 34) hx hb dX12_winner_14 rfl (fun hc => ?_) (fun hc => ?_)
  · have h := ip hc h
    exact N_winner_34 X hP (lv_sub hl [0, 1, 2, 3, 4, 5] rfl) h
  · have h := ine hc h
    refine lv_iload_n hx hb dX12_winner_17 rfl (lv_at hl 3 rfl) ?_
    refine lv_iconst (v := (2:Int32)) hx hb dX12_winner_18 (by decide) ?_
    refine lv_icmp_le (tgt := 34) hx hb dX12_winner_19 rfl (fun hc => ?_) (fun hc => ?_)
    · have h := ip hc h
      exact N_winner_34 X hP (lv_sub hl [0, 1, 2, 3, 4, 5] rfl) h
    · have h := ine hc h
      refine lv_bipush (v := (16:Int32)) hx hb dX12_winner_22 (by decide) ?_
      refine lv_bipush (v := (40:Int32)) hx hb dX12_winner_24 (by decide) ?_
      refine lv_iload_n hx hb dX12_winner_26 rfl (lv_at hl 1 rfl) ?_
      refine lv_iadd hx hb dX12_winner_27 ?_
      refine lv_imul hx hb dX12_winner_28 ?_
      refine lv_iload_n hx hb dX12_winner_29 rfl (lv_at hl 2 rfl) ?_
      refine lv_iadd hx hb dX12_winner_30 ?_
      refine lv_goto (tgt := 35) hx hb dX12_winner_31 rfl ?_
      exact N_winner_35 X hP (lv_sub hl [0, 1, 2, 3, 4, 5] rfl) h
theorem cl_winner {p : Program} {l : Launch} {e : Env} {s : State} {m : MethodId} {args : Array Value} {below : List Frame} {meth : Method} {c : Code} {D : mD} {mb : Nat} {H : Heap} {locs : List Loc} {Q : State → Prop} {cc : ByteArray} {pc fR lR nL : Nat} {ls : Array Slot} {rest : List Value} {ret : Option FieldType} {σ : mS} (X : mX p s m args meth c cc nL ret D) (hP : mP D mb σ H) {x1 : Int32} {x2 : Int32} {x3 : Int32} {x4 : Int32} {x5 : Int32} {r : Int32} (h : f_winner x1 x2 x3 x4 x5 σ = some r) (hr : 5 + 1 ≤ fR ∧ 8 + (10 + 11) + 113 ≤ lR) (hl : ls.size = nL) (hW : (rest.map fun v => v.category).sum ≤ 8) (hdg : decode cc pc = .ok (.invokevirtual 360, 3)) (kk : W p l e (rM fR lR) s m args below meth c H locs 0 0 Q (F0 m (pc + 3) ls (.int r :: rest))) : W p l e (rM fR lR) s m args below meth c H locs 0 0 Q (F0 m pc ls (.int x5 :: .int x4 :: .int x3 :: .int x2 :: .int x1 :: .ref mb :: rest)) := m_cr (m_run (n := 5) X (K_winner l D mb σ x1 x2 x3 x4 x5 h) ⟨w_2192, w_2194, w_118, w_2195⟩ (hyX rfl (by decide +kernel)) rfl hr hP hl hW hdg rfl) kk
-- found(IIIZ)I
def f_found_49  (x5 : Int32) (σ : mS) : Option (Int32) := some x5
def f_found_12  : Nat → Int32 → Int32 → Int32 → Int32 → Int32 → mS → Option (Int32)
  | 0, _, _, _, _, _, _ => none
  | n + 1, x1, x2, x3, x4, x5, σ => if x5 < (0:Int32) then (f_found_49 (x5) σ) else ((rd σ 37 x5).bind (fun v1 => if v1 = (10:Int32) then ((f_originOf (x5) σ).bind (fun v2 => (f_winner (x1) (x2) (v2) (x3) (x4) σ).bind (fun v3 => f_found_12 n (x1) (x2) (x3) (x4) (v3) σ))) else (f_found_49 (x5) σ)))
def f_found (x1 : Int32) (x2 : Int32) (x3 : Int32) (x4 : Int32) (σ : mS) : Option (Int32) := (f_winner (x1) (x2) ((3:Int32)) (x3) (x4) σ).bind (fun v1 => f_found_12 4000 (x1) (x2) (x3) (x4) (v1) σ)
set_option maxRecDepth 20000 in
set_option maxHeartbeats 4000000 in
theorem N_found_49 {p : Program} {l : Launch} {e : Env} {s : State} {m : MethodId} {args : Array Value} {below : List Frame} {meth : Method} {c : Code} {D : mD} {mb : Nat}   {x5 : Int32} {σ : mS} {ls : Array Slot} {r : Int32} (X : mX p s m args meth c cX12_found 6 (some .int) D) (hP : mP D mb σ s.heap)  (hl : lv_has ls 6 [(0, .ref mb), (5, .int x5)]) (h : f_found_49  x5 σ = some r) : mWr p l e 6 142 s m args below meth c (some (.int r)) (F0 m 49 ls []) := by
  have hx := X.1
  have hb := X.2.1
  have hown := X.2.2.2.1
  have hts := X.2.2.2.2.1
  have h : (some x5) = some r := h
  refine lv_iload hx hb dX12_found_49 (lv_at hl 1 rfl) ?_
  obtain rfl := sj h
  exact m_ri X dX12_found_51
set_option maxRecDepth 20000 in
set_option maxHeartbeats 4000000 in
theorem N_found_12 {p : Program} {l : Launch} {e : Env} {s : State} {m : MethodId} {args : Array Value} {below : List Frame} {meth : Method} {c : Code} {D : mD} {mb : Nat}  {n : Nat} {x1 : Int32} {x2 : Int32} {x3 : Int32} {x4 : Int32} {x5 : Int32} {σ : mS} {ls : Array Slot} {r : Int32} (X : mX p s m args meth c cX12_found 6 (some .int) D) (hP : mP D mb σ s.heap)  (hl : lv_has ls 6 [(0, .ref mb), (1, .int x1), (2, .int x2), (3, .int x3), (4, .int x4), (5, .int x5)]) (h : f_found_12  n x1 x2 x3 x4 x5 σ = some r) : mWr p l e 6 142 s m args below meth c (some (.int r)) (F0 m 12 ls []) := by
  have hx := X.1
  have hb := X.2.1
  have hown := X.2.2.2.1
  have hts := X.2.2.2.2.1
  induction n generalizing x1 x2 x3 x4 x5 ls with
  | zero => exact absurd (show none = some r from h) (by simp)
  | succ n ih =>
    have h : (if x5 < (0:Int32) then (f_found_49 (x5) σ) else ((rd σ 37 x5).bind (fun v1 => if v1 = (10:Int32) then ((f_originOf (x5) σ).bind (fun v2 => (f_winner (x1) (x2) (v2) (x3) (x4) σ).bind (fun v3 => f_found_12 n (x1) (x2) (x3) (x4) (v3) σ))) else (f_found_49 (x5) σ)))) = some r := h
    refine lv_iload hx hb dX12_found_12 (lv_at hl 5 rfl) ?_
    refine lv_if_lt (tgt := 49) hx hb dX12_found_14 rfl (fun hc => ?_) (fun hc => ?_)
    · have h := ip hc h
      exact N_found_49 X hP (lv_sub hl [0, 5] rfl) h
    · have h := ine hc h
      refine lv_aload_n hx hb dX12_found_17 rfl (lv_at hl 0 rfl) ?_
      refine mg_du X hP dX12_found_18 ?_
      refine lv_iload hx hb dX12_found_21 (lv_at hl 5 rfl) ?_
      obtain ⟨v1, hv1, h⟩ := ob h
      refine m_ald X hP hv1 dX12_found_23 ?_
      refine lv_bipush (v := (10:Int32)) hx hb dX12_found_24 (by decide) ?_
      refine lv_icmp_ne (tgt := 49) hx hb dX12_found_26 rfl (fun hc => ?_) (fun hc => ?_)
      · have h := ine hc h
        exact N_found_49 X hP (lv_sub hl [0, 5] rfl) h
      · have h := ip hc h
        refine lv_aload_n hx hb dX12_found_29 rfl (lv_at hl 0 rfl) ?_
        refine lv_iload_n hx hb dX12_found_30 rfl (lv_at hl 1 rfl) ?_
        refine lv_iload_n hx hb dX12_found_31 rfl (lv_at hl 2 rfl) ?_
        refine lv_aload_n hx hb dX12_found_32 rfl (lv_at hl 0 rfl) ?_
        refine lv_iload hx hb dX12_found_33 (lv_at hl 5 rfl) ?_
        obtain ⟨v2, hv2, h⟩ := ob h
        refine cl_originOf X hP hv2 ⟨Nat.le_of_ble_eq_true rfl, Nat.le_of_ble_eq_true rfl⟩ hl.1 (Nat.le_of_ble_eq_true rfl) dX12_found_35 ?_
        refine lv_iload_n hx hb dX12_found_38 rfl (lv_at hl 3 rfl) ?_
        refine lv_iload hx hb dX12_found_39 (lv_at hl 4 rfl) ?_
        obtain ⟨v3, hv3, h⟩ := ob h
        refine cl_winner X hP hv3 ⟨Nat.le_of_ble_eq_true rfl, Nat.le_of_ble_eq_true rfl⟩ hl.1 (Nat.le_of_ble_eq_true rfl) dX12_found_41 ?_
        refine lv_istore hx hb dX12_found_44 hl (Nat.le_of_ble_eq_true rfl) rfl (fun ls (hl : lv_has ls 6 [(5, .int v3), (0, .ref mb), (1, .int x1), (2, .int x2), (3, .int x3), (4, .int x4)]) => ?_)
        refine lv_goto (tgt := 12) hx hb dX12_found_46 rfl ?_
        exact ih (lv_sub hl [1, 2, 3, 4, 5, 0] rfl) h
set_option maxRecDepth 20000 in
set_option maxHeartbeats 4000000 in
theorem K_found (l : Launch) (D : mD) (mb : Nat) (σ : mS) (x1 : Int32) (x2 : Int32) (x3 : Int32) (x4 : Int32) {r : Int32} (h : f_found x1 x2 x3 x4 σ = some r) : Met l yX12_found (Cond.code yX12_found cX12_found 6 (some .int) :: BG) (rM 6 142) (mPc D mb σ [.int x1, .int x2, .int x3, .int x4]) (mQr (some (.int r))) 0 0 (fun _ => False) := by
  refine Met.ofW (cc := cX12_found) (maxL := 6) (ret := (some .int)) (by decide) rfl ?_
  intro p e s m args below meth c s₁ B hml hv
  obtain ⟨rfl, hP, hK⟩ := hv
  have X := mX_of B hml rfl hK
  have hx := X.1
  have hb := X.2.1
  have hown := X.2.2.2.1
  have hts := X.2.2.2.2.1
  have hl := lv_entry (.ref mb :: [.int x1, .int x2, .int x3, .int x4]) (n := 6) (Nat.le_of_ble_eq_true rfl)
  rw [lg_entry_eq]
  generalize (lg_sl (.ref mb :: [.int x1, .int x2, .int x3, .int x4]) ++ List.replicate (6 - (lg_sl (.ref mb :: [.int x1, .int x2, .int x3, .int x4])).length) Slot.unset).toArray = ls at hl ⊢
  have hl : lv_has ls 6 [(0, .ref mb), (1, .int x1), (2, .int x2), (3, .int x3), (4, .int x4)] := hl
  show mWr p l e 6 142 s m (Value.ref mb :: [.int x1, .int x2, .int x3, .int x4]).toArray below meth c (some (.int r)) (F0 m 0 ls [])
  have h : ((f_winner (x1) (x2) ((3:Int32)) (x3) (x4) σ).bind (fun v1 => f_found_12 4000 (x1) (x2) (x3) (x4) (v1) σ)) = some r := h
  refine lv_aload_n hx hb dX12_found_0 rfl (lv_at hl 0 rfl) ?_
  refine lv_iload_n hx hb dX12_found_1 rfl (lv_at hl 1 rfl) ?_
  refine lv_iload_n hx hb dX12_found_2 rfl (lv_at hl 2 rfl) ?_
  refine lv_iconst (v := (3:Int32)) hx hb dX12_found_3 (by decide) ?_
  refine lv_iload_n hx hb dX12_found_4 rfl (lv_at hl 3 rfl) ?_
  refine lv_iload hx hb dX12_found_5 (lv_at hl 4 rfl) ?_
  obtain ⟨v1, hv1, h⟩ := ob h
  refine cl_winner X hP hv1 ⟨Nat.le_of_ble_eq_true rfl, Nat.le_of_ble_eq_true rfl⟩ hl.1 (Nat.le_of_ble_eq_true rfl) dX12_found_7 ?_
  refine lv_istore hx hb dX12_found_10 hl (Nat.le_of_ble_eq_true rfl) rfl (fun ls (hl : lv_has ls 6 [(5, .int v1), (0, .ref mb), (1, .int x1), (2, .int x2), (3, .int x3), (4, .int x4)]) => ?_)
  exact N_found_12 X hP (lv_sub hl [1, 2, 3, 4, 5, 0] rfl) h
theorem cl_found {p : Program} {l : Launch} {e : Env} {s : State} {m : MethodId} {args : Array Value} {below : List Frame} {meth : Method} {c : Code} {D : mD} {mb : Nat} {H : Heap} {locs : List Loc} {Q : State → Prop} {cc : ByteArray} {pc fR lR nL : Nat} {ls : Array Slot} {rest : List Value} {ret : Option FieldType} {σ : mS} (X : mX p s m args meth c cc nL ret D) (hP : mP D mb σ H) {x1 : Int32} {x2 : Int32} {x3 : Int32} {x4 : Int32} {r : Int32} (h : f_found x1 x2 x3 x4 σ = some r) (hr : 6 + 1 ≤ fR ∧ 8 + (6 + 11) + 142 ≤ lR) (hl : ls.size = nL) (hW : (rest.map fun v => v.category).sum ≤ 8) (hdg : decode cc pc = .ok (.invokevirtual 374, 3)) (kk : W p l e (rM fR lR) s m args below meth c H locs 0 0 Q (F0 m (pc + 3) ls (.int r :: rest))) : W p l e (rM fR lR) s m args below meth c H locs 0 0 Q (F0 m pc ls (.int x4 :: .int x3 :: .int x2 :: .int x1 :: .ref mb :: rest)) := m_cr (m_run (n := 4) X (K_found l D mb σ x1 x2 x3 x4 h) ⟨w_2188, w_2190, w_117, w_2191⟩ (hyX rfl (by decide +kernel)) rfl hr hP hl hW hdg rfl) kk
-- suits(II)Z
def f_suits_78  (y0 : Int32)  : Option (Int32) := rz y0
def f_suits_73    : Option (Int32) := f_suits_78 ((1:Int32))
def f_suits_77    : Option (Int32) := f_suits_78 ((0:Int32))
def f_suits_62  (x1 : Int32) (x2 : Int32)  : Option (Int32) := if x2 = (6:Int32) then (if x1 = (2:Int32) then (f_suits_73) else (f_suits_77)) else (f_suits_77)
def f_suits_47  (x1 : Int32) (x2 : Int32)  : Option (Int32) := if x2 = (4:Int32) then ((f_in (x1) ((1:Int32)) ((2:Int32))).bind (fun v1 => if v1 = (0:Int32) then (f_suits_62 (x1) (x2)) else (f_suits_73))) else (f_suits_62 (x1) (x2))
def f_suits_43  (x1 : Int32) (x2 : Int32) (x3 : Int32)  : Option (Int32) := if x3 = (0:Int32) then (f_suits_47 (x1) (x2)) else (f_suits_73)
def f_suits_28  (x1 : Int32) (x2 : Int32) (x3 : Int32)  : Option (Int32) := (f_in (x2) ((1:Int32)) ((3:Int32))).bind (fun v1 => if v1 = (0:Int32) then (if x2 = (5:Int32) then (f_suits_43 (x1) (x2) (x3)) else (f_suits_47 (x1) (x2))) else (f_suits_43 (x1) (x2) (x3)))
def f_suits (x1 : Int32) (x2 : Int32)  : Option (Int32) := (f_in (x1) ((1:Int32)) ((4:Int32))).bind (fun v1 => if (6:Int32) < x2 then (f_suits_73) else (if (11:Int32) < x1 then (f_suits_73) else (if x2 = (0:Int32) then (if v1 = (0:Int32) then (f_suits_73) else (f_suits_28 (x1) (x2) (v1))) else (f_suits_28 (x1) (x2) (v1)))))
set_option maxRecDepth 20000 in
set_option maxHeartbeats 4000000 in
theorem N_suits_78 {p : Program} {l : Launch} {e : Env} {s : State} {m : MethodId} {args : Array Value} {below : List Frame} {meth : Method} {c : Code} {D : mD} {mb : Nat}   {y0 : Int32} {σ : mS} {ls : Array Slot} {r : Int32} (X : mX p s m args meth c cX12_suits 4 (some .boolean) D) (hP : mP D mb σ s.heap)  (hl : lv_has ls 4 [(0, .ref mb)]) (h : f_suits_78  y0 = some r) : mWr p l e 1 23 s m args below meth c (some (.int r)) (F0 m 78 ls [.int y0]) := by
  have hx := X.1
  have hb := X.2.1
  have hown := X.2.2.2.1
  have hts := X.2.2.2.2.1
  have h : (rz y0) = some r := h
  obtain ⟨hz, rfl⟩ := rz_spec h
  exact m_rz X hz dX12_suits_78
set_option maxRecDepth 20000 in
set_option maxHeartbeats 4000000 in
theorem N_suits_73 {p : Program} {l : Launch} {e : Env} {s : State} {m : MethodId} {args : Array Value} {below : List Frame} {meth : Method} {c : Code} {D : mD} {mb : Nat}    {σ : mS} {ls : Array Slot} {r : Int32} (X : mX p s m args meth c cX12_suits 4 (some .boolean) D) (hP : mP D mb σ s.heap)  (hl : lv_has ls 4 [(0, .ref mb)]) (h : f_suits_73   = some r) : mWr p l e 1 23 s m args below meth c (some (.int r)) (F0 m 73 ls []) := by
  have hx := X.1
  have hb := X.2.1
  have hown := X.2.2.2.1
  have hts := X.2.2.2.2.1
  have h : (f_suits_78 ((1:Int32))) = some r := h
  refine lv_iconst (v := (1:Int32)) hx hb dX12_suits_73 (by decide) ?_
  refine lv_goto (tgt := 78) hx hb dX12_suits_74 rfl ?_
  exact N_suits_78 X hP (lv_sub hl [0] rfl) h
set_option maxRecDepth 20000 in
set_option maxHeartbeats 4000000 in
theorem N_suits_77 {p : Program} {l : Launch} {e : Env} {s : State} {m : MethodId} {args : Array Value} {below : List Frame} {meth : Method} {c : Code} {D : mD} {mb : Nat}    {σ : mS} {ls : Array Slot} {r : Int32} (X : mX p s m args meth c cX12_suits 4 (some .boolean) D) (hP : mP D mb σ s.heap)  (hl : lv_has ls 4 [(0, .ref mb)]) (h : f_suits_77   = some r) : mWr p l e 1 23 s m args below meth c (some (.int r)) (F0 m 77 ls []) := by
  have hx := X.1
  have hb := X.2.1
  have hown := X.2.2.2.1
  have hts := X.2.2.2.2.1
  have h : (f_suits_78 ((0:Int32))) = some r := h
  refine lv_iconst (v := (0:Int32)) hx hb dX12_suits_77 (by decide) ?_
  exact N_suits_78 X hP (lv_sub hl [0] rfl) h
set_option maxRecDepth 20000 in
set_option maxHeartbeats 4000000 in
theorem N_suits_62 {p : Program} {l : Launch} {e : Env} {s : State} {m : MethodId} {args : Array Value} {below : List Frame} {meth : Method} {c : Code} {D : mD} {mb : Nat}   {x1 : Int32} {x2 : Int32} {σ : mS} {ls : Array Slot} {r : Int32} (X : mX p s m args meth c cX12_suits 4 (some .boolean) D) (hP : mP D mb σ s.heap)  (hl : lv_has ls 4 [(0, .ref mb), (1, .int x1), (2, .int x2)]) (h : f_suits_62  x1 x2 = some r) : mWr p l e 1 23 s m args below meth c (some (.int r)) (F0 m 62 ls []) := by
  have hx := X.1
  have hb := X.2.1
  have hown := X.2.2.2.1
  have hts := X.2.2.2.2.1
  have h : (if x2 = (6:Int32) then (if x1 = (2:Int32) then (f_suits_73) else (f_suits_77)) else (f_suits_77)) = some r := h
  refine lv_iload_n hx hb dX12_suits_62 rfl (lv_at hl 2 rfl) ?_
  refine lv_bipush (v := (6:Int32)) hx hb dX12_suits_63 (by decide) ?_
  refine lv_icmp_ne (tgt := 77) hx hb dX12_suits_65 rfl (fun hc => ?_) (fun hc => ?_)
  · have h := ine hc h
    exact N_suits_77 X hP (lv_sub hl [0] rfl) h
  · have h := ip hc h
    refine lv_iload_n hx hb dX12_suits_68 rfl (lv_at hl 1 rfl) ?_
    refine lv_iconst (v := (2:Int32)) hx hb dX12_suits_69 (by decide) ?_
    refine lv_icmp_ne (tgt := 77) hx hb dX12_suits_70 rfl (fun hc => ?_) (fun hc => ?_)
    · have h := ine hc h
      exact N_suits_77 X hP (lv_sub hl [0] rfl) h
    · have h := ip hc h
      exact N_suits_73 X hP (lv_sub hl [0] rfl) h
set_option maxRecDepth 20000 in
set_option maxHeartbeats 4000000 in
theorem N_suits_47 {p : Program} {l : Launch} {e : Env} {s : State} {m : MethodId} {args : Array Value} {below : List Frame} {meth : Method} {c : Code} {D : mD} {mb : Nat}   {x1 : Int32} {x2 : Int32} {σ : mS} {ls : Array Slot} {r : Int32} (X : mX p s m args meth c cX12_suits 4 (some .boolean) D) (hP : mP D mb σ s.heap)  (hl : lv_has ls 4 [(0, .ref mb), (1, .int x1), (2, .int x2)]) (h : f_suits_47  x1 x2 = some r) : mWr p l e 1 23 s m args below meth c (some (.int r)) (F0 m 47 ls []) := by
  have hx := X.1
  have hb := X.2.1
  have hown := X.2.2.2.1
  have hts := X.2.2.2.2.1
  have h : (if x2 = (4:Int32) then ((f_in (x1) ((1:Int32)) ((2:Int32))).bind (fun v1 => if v1 = (0:Int32) then (f_suits_62 (x1) (x2)) else (f_suits_73))) else (f_suits_62 (x1) (x2))) = some r := h
  refine lv_iload_n hx hb dX12_suits_47 rfl (lv_at hl 2 rfl) ?_
  refine lv_iconst (v := (4:Int32)) hx hb dX12_suits_48 (by decide) ?_
  refine lv_icmp_ne (tgt := 62) hx hb dX12_suits_49 rfl (fun hc => ?_) (fun hc => ?_)
  · have h := ine hc h
    exact N_suits_62 X hP (lv_sub hl [0, 1, 2] rfl) h
  · have h := ip hc h
    refine lv_aload_n hx hb dX12_suits_52 rfl (lv_at hl 0 rfl) ?_
    refine lv_iload_n hx hb dX12_suits_53 rfl (lv_at hl 1 rfl) ?_
    refine lv_iconst (v := (1:Int32)) hx hb dX12_suits_54 (by decide) ?_
    refine lv_iconst (v := (2:Int32)) hx hb dX12_suits_55 (by decide) ?_
    obtain ⟨v1, hv1, h⟩ := ob h
    refine cl_in X hP hv1 ⟨Nat.le_of_ble_eq_true rfl, Nat.le_of_ble_eq_true rfl⟩ hl.1 (Nat.le_of_ble_eq_true rfl) dX12_suits_56 ?_
    refine lv_if_ne (tgt := 73) hx hb dX12_suits_59 rfl (fun hc => ?_) (fun hc => ?_)
    · have h := ine hc h
      exact N_suits_73 X hP (lv_sub hl [0] rfl) h
    · have h := ip hc h
      exact N_suits_62 X hP (lv_sub hl [0, 1, 2] rfl) h
set_option maxRecDepth 20000 in
set_option maxHeartbeats 4000000 in
theorem N_suits_43 {p : Program} {l : Launch} {e : Env} {s : State} {m : MethodId} {args : Array Value} {below : List Frame} {meth : Method} {c : Code} {D : mD} {mb : Nat}   {x1 : Int32} {x2 : Int32} {x3 : Int32} {σ : mS} {ls : Array Slot} {r : Int32} (X : mX p s m args meth c cX12_suits 4 (some .boolean) D) (hP : mP D mb σ s.heap)  (hl : lv_has ls 4 [(0, .ref mb), (1, .int x1), (2, .int x2), (3, .int x3)]) (h : f_suits_43  x1 x2 x3 = some r) : mWr p l e 1 23 s m args below meth c (some (.int r)) (F0 m 43 ls []) := by
  have hx := X.1
  have hb := X.2.1
  have hown := X.2.2.2.1
  have hts := X.2.2.2.2.1
  have h : (if x3 = (0:Int32) then (f_suits_47 (x1) (x2)) else (f_suits_73)) = some r := h
  refine lv_iload_n hx hb dX12_suits_43 rfl (lv_at hl 3 rfl) ?_
  refine lv_if_ne (tgt := 73) hx hb dX12_suits_44 rfl (fun hc => ?_) (fun hc => ?_)
  · have h := ine hc h
    exact N_suits_73 X hP (lv_sub hl [0] rfl) h
  · have h := ip hc h
    exact N_suits_47 X hP (lv_sub hl [0, 1, 2] rfl) h
set_option maxRecDepth 20000 in
set_option maxHeartbeats 4000000 in
theorem N_suits_28 {p : Program} {l : Launch} {e : Env} {s : State} {m : MethodId} {args : Array Value} {below : List Frame} {meth : Method} {c : Code} {D : mD} {mb : Nat}   {x1 : Int32} {x2 : Int32} {x3 : Int32} {σ : mS} {ls : Array Slot} {r : Int32} (X : mX p s m args meth c cX12_suits 4 (some .boolean) D) (hP : mP D mb σ s.heap)  (hl : lv_has ls 4 [(0, .ref mb), (1, .int x1), (2, .int x2), (3, .int x3)]) (h : f_suits_28  x1 x2 x3 = some r) : mWr p l e 1 23 s m args below meth c (some (.int r)) (F0 m 28 ls []) := by
  have hx := X.1
  have hb := X.2.1
  have hown := X.2.2.2.1
  have hts := X.2.2.2.2.1
  have h : ((f_in (x2) ((1:Int32)) ((3:Int32))).bind (fun v1 => if v1 = (0:Int32) then (if x2 = (5:Int32) then (f_suits_43 (x1) (x2) (x3)) else (f_suits_47 (x1) (x2))) else (f_suits_43 (x1) (x2) (x3)))) = some r := h
  refine lv_aload_n hx hb dX12_suits_28 rfl (lv_at hl 0 rfl) ?_
  refine lv_iload_n hx hb dX12_suits_29 rfl (lv_at hl 2 rfl) ?_
  refine lv_iconst (v := (1:Int32)) hx hb dX12_suits_30 (by decide) ?_
  refine lv_iconst (v := (3:Int32)) hx hb dX12_suits_31 (by decide) ?_
  obtain ⟨v1, hv1, h⟩ := ob h
  refine cl_in X hP hv1 ⟨Nat.le_of_ble_eq_true rfl, Nat.le_of_ble_eq_true rfl⟩ hl.1 (Nat.le_of_ble_eq_true rfl) dX12_suits_32 ?_
  refine lv_if_ne (tgt := 43) hx hb dX12_suits_35 rfl (fun hc => ?_) (fun hc => ?_)
  · have h := ine hc h
    exact N_suits_43 X hP (lv_sub hl [0, 1, 2, 3] rfl) h
  · have h := ip hc h
    refine lv_iload_n hx hb dX12_suits_38 rfl (lv_at hl 2 rfl) ?_
    refine lv_iconst (v := (5:Int32)) hx hb dX12_suits_39 (by decide) ?_
    refine lv_icmp_ne (tgt := 47) hx hb dX12_suits_40 rfl (fun hc => ?_) (fun hc => ?_)
    · have h := ine hc h
      exact N_suits_47 X hP (lv_sub hl [0, 1, 2] rfl) h
    · have h := ip hc h
      exact N_suits_43 X hP (lv_sub hl [0, 1, 2, 3] rfl) h
set_option maxRecDepth 20000 in
set_option maxHeartbeats 4000000 in
theorem K_suits (l : Launch) (D : mD) (mb : Nat) (σ : mS) (x1 : Int32) (x2 : Int32) {r : Int32} (h : f_suits x1 x2 = some r) : Met l yX12_suits (Cond.code yX12_suits cX12_suits 4 (some .boolean) :: BG) (rM 1 23) (mPc D mb σ [.int x1, .int x2]) (mQr (some (.int r))) 0 0 (fun _ => False) := by
  refine Met.ofW (cc := cX12_suits) (maxL := 4) (ret := (some .boolean)) (by decide) rfl ?_
  intro p e s m args below meth c s₁ B hml hv
  obtain ⟨rfl, hP, hK⟩ := hv
  have X := mX_of B hml rfl hK
  have hx := X.1
  have hb := X.2.1
  have hown := X.2.2.2.1
  have hts := X.2.2.2.2.1
  have hl := lv_entry (.ref mb :: [.int x1, .int x2]) (n := 4) (Nat.le_of_ble_eq_true rfl)
  rw [lg_entry_eq]
  generalize (lg_sl (.ref mb :: [.int x1, .int x2]) ++ List.replicate (4 - (lg_sl (.ref mb :: [.int x1, .int x2])).length) Slot.unset).toArray = ls at hl ⊢
  have hl : lv_has ls 4 [(0, .ref mb), (1, .int x1), (2, .int x2)] := hl
  show mWr p l e 1 23 s m (Value.ref mb :: [.int x1, .int x2]).toArray below meth c (some (.int r)) (F0 m 0 ls [])
  have h : ((f_in (x1) ((1:Int32)) ((4:Int32))).bind (fun v1 => if (6:Int32) < x2 then (f_suits_73) else (if (11:Int32) < x1 then (f_suits_73) else (if x2 = (0:Int32) then (if v1 = (0:Int32) then (f_suits_73) else (f_suits_28 (x1) (x2) (v1))) else (f_suits_28 (x1) (x2) (v1)))))) = some r := h
  refine lv_aload_n hx hb dX12_suits_0 rfl (lv_at hl 0 rfl) ?_
  refine lv_iload_n hx hb dX12_suits_1 rfl (lv_at hl 1 rfl) ?_
  refine lv_iconst (v := (1:Int32)) hx hb dX12_suits_2 (by decide) ?_
  refine lv_iconst (v := (4:Int32)) hx hb dX12_suits_3 (by decide) ?_
  obtain ⟨v1, hv1, h⟩ := ob h
  refine cl_in X hP hv1 ⟨Nat.le_of_ble_eq_true rfl, Nat.le_of_ble_eq_true rfl⟩ hl.1 (Nat.le_of_ble_eq_true rfl) dX12_suits_4 ?_
  refine lv_istore_n hx hb dX12_suits_7 rfl hl (Nat.le_of_ble_eq_true rfl) rfl (fun ls (hl : lv_has ls 4 [(3, .int v1), (0, .ref mb), (1, .int x1), (2, .int x2)]) => ?_)
  refine lv_iload_n hx hb dX12_suits_8 rfl (lv_at hl 3 rfl) ?_
  refine lv_bipush (v := (6:Int32)) hx hb dX12_suits_9 (by decide) ?_
  refine lv_icmp_gt (tgt := 73) hx hb dX12_suits_11 rfl (fun hc => ?_) (fun hc => ?_)
  · have h := ip hc h
    exact N_suits_73 X hP (lv_sub hl [1] rfl) h
  · have h := ine hc h
    refine lv_iload_n hx hb dX12_suits_14 rfl (lv_at hl 2 rfl) ?_
    refine lv_bipush (v := (11:Int32)) hx hb dX12_suits_15 (by decide) ?_
    refine lv_icmp_gt (tgt := 73) hx hb dX12_suits_17 rfl (fun hc => ?_) (fun hc => ?_)
    · have h := ip hc h
      exact N_suits_73 X hP (lv_sub hl [1] rfl) h
    · have h := ine hc h
      refine lv_iload_n hx hb dX12_suits_20 rfl (lv_at hl 3 rfl) ?_
      refine lv_if_ne (tgt := 28) hx hb dX12_suits_21 rfl (fun hc => ?_) (fun hc => ?_)
      · have h := ine hc h
        exact N_suits_28 X hP (lv_sub hl [1, 2, 3, 0] rfl) h
      · have h := ip hc h
        refine lv_iload_n hx hb dX12_suits_24 rfl (lv_at hl 0 rfl) ?_
        refine lv_if_eq (tgt := 73) hx hb dX12_suits_25 rfl (fun hc => ?_) (fun hc => ?_)
        · have h := ip hc h
          exact N_suits_73 X hP (lv_sub hl [1] rfl) h
        · have h := ine hc h
          exact N_suits_28 X hP (lv_sub hl [1, 2, 3, 0] rfl) h
theorem cl_suits {p : Program} {l : Launch} {e : Env} {s : State} {m : MethodId} {args : Array Value} {below : List Frame} {meth : Method} {c : Code} {D : mD} {mb : Nat} {H : Heap} {locs : List Loc} {Q : State → Prop} {cc : ByteArray} {pc fR lR nL : Nat} {ls : Array Slot} {rest : List Value} {ret : Option FieldType} {σ : mS} (X : mX p s m args meth c cc nL ret D) (hP : mP D mb σ H) {x1 : Int32} {x2 : Int32} {r : Int32} (h : f_suits x1 x2 = some r) (hr : 1 + 1 ≤ fR ∧ 8 + (4 + 11) + 23 ≤ lR) (hl : ls.size = nL) (hW : (rest.map fun v => v.category).sum ≤ 8) (hdg : decode cc pc = .ok (.invokevirtual 395, 3)) (kk : W p l e (rM fR lR) s m args below meth c H locs 0 0 Q (F0 m (pc + 3) ls (.int r :: rest))) : W p l e (rM fR lR) s m args below meth c H locs 0 0 Q (F0 m pc ls (.int x2 :: .int x1 :: .ref mb :: rest)) := m_cr (m_run (n := 2) X (K_suits l D mb σ x1 x2 h) ⟨w_2099, w_2101, w_99, w_2102⟩ (hyX rfl (by decide +kernel)) rfl hr hP hl hW hdg rfl) kk
-- bounded(J)I
def f_bounded_30  (y0 : Int32)  : Option (Int32) := some y0
def f_bounded (x1 : Int64)  : Option (Int32) := if (0:Int32) ≤ (lg_cmp x1 ((-100000):Int64)) then (if (lg_cmp x1 (100000:Int64)) ≤ (0:Int32) then (f_bounded_30 ((x1.toInt32))) else (f_bounded_30 ((100000:Int32)))) else (f_bounded_30 (((-100000):Int32)))
set_option maxRecDepth 20000 in
set_option maxHeartbeats 4000000 in
theorem N_bounded_30 {p : Program} {l : Launch} {e : Env} {s : State} {m : MethodId} {args : Array Value} {below : List Frame} {meth : Method} {c : Code} {D : mD} {mb : Nat}   {y0 : Int32} {σ : mS} {ls : Array Slot} {r : Int32} (X : mX p s m args meth c cX12_bounded 3 (some .int) D) (hP : mP D mb σ s.heap)  (hl : lv_has ls 3 [(0, .ref mb)]) (h : f_bounded_30  y0 = some r) : mWr p l e 0 0 s m args below meth c (some (.int r)) (F0 m 30 ls [.int y0]) := by
  have hx := X.1
  have hb := X.2.1
  have hown := X.2.2.2.1
  have hts := X.2.2.2.2.1
  have h : (some y0) = some r := h
  obtain rfl := sj h
  exact m_ri X dX12_bounded_30
set_option maxRecDepth 20000 in
set_option maxHeartbeats 4000000 in
theorem K_bounded (l : Launch) (D : mD) (mb : Nat) (σ : mS) (x1 : Int64) {r : Int32} (h : f_bounded x1 = some r) : Met l yX12_bounded (Cond.code yX12_bounded cX12_bounded 3 (some .int) :: BG) (rM 0 0) (mPc D mb σ [.long x1]) (mQr (some (.int r))) 0 0 (fun _ => False) := by
  refine Met.ofW (cc := cX12_bounded) (maxL := 3) (ret := (some .int)) (by decide) rfl ?_
  intro p e s m args below meth c s₁ B hml hv
  obtain ⟨rfl, hP, hK⟩ := hv
  have X := mX_of B hml rfl hK
  have hx := X.1
  have hb := X.2.1
  have hown := X.2.2.2.1
  have hts := X.2.2.2.2.1
  have hl := lv_entry (.ref mb :: [.long x1]) (n := 3) (Nat.le_of_ble_eq_true rfl)
  rw [lg_entry_eq]
  generalize (lg_sl (.ref mb :: [.long x1]) ++ List.replicate (3 - (lg_sl (.ref mb :: [.long x1])).length) Slot.unset).toArray = ls at hl ⊢
  have hl : lv_has ls 3 [(0, .ref mb), (1, .long x1)] := hl
  show mWr p l e 0 0 s m (Value.ref mb :: [.long x1]).toArray below meth c (some (.int r)) (F0 m 0 ls [])
  have h : (if (0:Int32) ≤ (lg_cmp x1 ((-100000):Int64)) then (if (lg_cmp x1 (100000:Int64)) ≤ (0:Int32) then (f_bounded_30 ((x1.toInt32))) else (f_bounded_30 ((100000:Int32)))) else (f_bounded_30 (((-100000):Int32)))) = some r := h
  refine lv_lload_n hx hb dX12_bounded_0 rfl (lv_at hl 1 rfl) ?_
  refine lv_ldc2 hx hb hown (hts _ w_2264) dX12_bounded_1 ?_
  refine W.lcmp hx hb dX12_bounded_4 ?_
  refine lv_if_ge (tgt := 14) hx hb dX12_bounded_5 rfl (fun hc => ?_) (fun hc => ?_)
  · have h := ip hc h
    refine lv_lload_n hx hb dX12_bounded_14 rfl (lv_at hl 1 rfl) ?_
    refine lv_ldc2 hx hb hown (hts _ w_2266) dX12_bounded_15 ?_
    refine W.lcmp hx hb dX12_bounded_18 ?_
    refine lv_if_le (tgt := 28) hx hb dX12_bounded_19 rfl (fun hc => ?_) (fun hc => ?_)
    · have h := ip hc h
      refine lv_lload_n hx hb dX12_bounded_28 rfl (lv_at hl 1 rfl) ?_
      refine lv_l2i hx hb dX12_bounded_29 rfl ?_
      exact N_bounded_30 X hP (lv_sub hl [0] rfl) h
    · have h := ine hc h
      refine lv_ldcw hx hb hown (hts _ w_2267) dX12_bounded_22 ?_
      refine lv_goto (tgt := 30) hx hb dX12_bounded_25 rfl ?_
      exact N_bounded_30 X hP (lv_sub hl [0] rfl) h
  · have h := ine hc h
    refine lv_ldcw hx hb hown (hts _ w_2265) dX12_bounded_8 ?_
    refine lv_goto (tgt := 30) hx hb dX12_bounded_11 rfl ?_
    exact N_bounded_30 X hP (lv_sub hl [0] rfl) h
theorem cl_bounded {p : Program} {l : Launch} {e : Env} {s : State} {m : MethodId} {args : Array Value} {below : List Frame} {meth : Method} {c : Code} {D : mD} {mb : Nat} {H : Heap} {locs : List Loc} {Q : State → Prop} {cc : ByteArray} {pc fR lR nL : Nat} {ls : Array Slot} {rest : List Value} {ret : Option FieldType} {σ : mS} (X : mX p s m args meth c cc nL ret D) (hP : mP D mb σ H) {x1 : Int64} {r : Int32} (h : f_bounded x1 = some r) (hr : 0 + 1 ≤ fR ∧ 8 + (3 + 11) + 0 ≤ lR) (hl : ls.size = nL) (hW : (rest.map fun v => v.category).sum ≤ 8) (hdg : decode cc pc = .ok (.invokevirtual 389, 3)) (kk : W p l e (rM fR lR) s m args below meth c H locs 0 0 Q (F0 m (pc + 3) ls (.int r :: rest))) : W p l e (rM fR lR) s m args below meth c H locs 0 0 Q (F0 m pc ls (.long x1 :: .ref mb :: rest)) := m_cr (m_run (n := 1) X (K_bounded l D mb σ x1 h) ⟨w_2260, w_2262, w_135, w_2263⟩ (hyX rfl (by decide +kernel)) rfl hr hP hl hW hdg rfl) kk
-- initial(I)I
def f_initial_47  (y0 : Int32)  : Option (Int32) := some y0
def f_initial_42    : Option (Int32) := f_initial_47 (((-1):Int32))
def f_initial (x1 : Int32)  : Option (Int32) := if x1 = (1:Int32) then (f_initial_47 ((16:Int32))) else (if x1 = (2:Int32) then (f_initial_47 (((-1000000):Int32))) else (if x1 = (5:Int32) then (f_initial_47 ((1:Int32))) else (if x1 = (8:Int32) then (f_initial_42) else (if x1 = (11:Int32) then (f_initial_42) else (f_initial_47 ((0:Int32)))))))
set_option maxRecDepth 20000 in
set_option maxHeartbeats 4000000 in
theorem N_initial_47 {p : Program} {l : Launch} {e : Env} {s : State} {m : MethodId} {args : Array Value} {below : List Frame} {meth : Method} {c : Code} {D : mD} {mb : Nat}   {y0 : Int32} {σ : mS} {ls : Array Slot} {r : Int32} (X : mX p s m args meth c cX12_initial 2 (some .int) D) (hP : mP D mb σ s.heap)  (hl : lv_has ls 2 [(0, .ref mb)]) (h : f_initial_47  y0 = some r) : mWr p l e 0 0 s m args below meth c (some (.int r)) (F0 m 47 ls [.int y0]) := by
  have hx := X.1
  have hb := X.2.1
  have hown := X.2.2.2.1
  have hts := X.2.2.2.2.1
  have h : (some y0) = some r := h
  obtain rfl := sj h
  exact m_ri X dX12_initial_47
set_option maxRecDepth 20000 in
set_option maxHeartbeats 4000000 in
theorem N_initial_42 {p : Program} {l : Launch} {e : Env} {s : State} {m : MethodId} {args : Array Value} {below : List Frame} {meth : Method} {c : Code} {D : mD} {mb : Nat}    {σ : mS} {ls : Array Slot} {r : Int32} (X : mX p s m args meth c cX12_initial 2 (some .int) D) (hP : mP D mb σ s.heap)  (hl : lv_has ls 2 [(0, .ref mb)]) (h : f_initial_42   = some r) : mWr p l e 0 0 s m args below meth c (some (.int r)) (F0 m 42 ls []) := by
  have hx := X.1
  have hb := X.2.1
  have hown := X.2.2.2.1
  have hts := X.2.2.2.2.1
  have h : (f_initial_47 (((-1):Int32))) = some r := h
  refine lv_iconst (v := ((-1):Int32)) hx hb dX12_initial_42 (by decide) ?_
  refine lv_goto (tgt := 47) hx hb dX12_initial_43 rfl ?_
  exact N_initial_47 X hP (lv_sub hl [0] rfl) h
set_option maxRecDepth 20000 in
set_option maxHeartbeats 4000000 in
theorem K_initial (l : Launch) (D : mD) (mb : Nat) (σ : mS) (x1 : Int32) {r : Int32} (h : f_initial x1 = some r) : Met l yX12_initial (Cond.code yX12_initial cX12_initial 2 (some .int) :: BG) (rM 0 0) (mPc D mb σ [.int x1]) (mQr (some (.int r))) 0 0 (fun _ => False) := by
  refine Met.ofW (cc := cX12_initial) (maxL := 2) (ret := (some .int)) (by decide) rfl ?_
  intro p e s m args below meth c s₁ B hml hv
  obtain ⟨rfl, hP, hK⟩ := hv
  have X := mX_of B hml rfl hK
  have hx := X.1
  have hb := X.2.1
  have hown := X.2.2.2.1
  have hts := X.2.2.2.2.1
  have hl := lv_entry (.ref mb :: [.int x1]) (n := 2) (Nat.le_of_ble_eq_true rfl)
  rw [lg_entry_eq]
  generalize (lg_sl (.ref mb :: [.int x1]) ++ List.replicate (2 - (lg_sl (.ref mb :: [.int x1])).length) Slot.unset).toArray = ls at hl ⊢
  have hl : lv_has ls 2 [(0, .ref mb), (1, .int x1)] := hl
  show mWr p l e 0 0 s m (Value.ref mb :: [.int x1]).toArray below meth c (some (.int r)) (F0 m 0 ls [])
  have h : (if x1 = (1:Int32) then (f_initial_47 ((16:Int32))) else (if x1 = (2:Int32) then (f_initial_47 (((-1000000):Int32))) else (if x1 = (5:Int32) then (f_initial_47 ((1:Int32))) else (if x1 = (8:Int32) then (f_initial_42) else (if x1 = (11:Int32) then (f_initial_42) else (f_initial_47 ((0:Int32)))))))) = some r := h
  refine lv_iload_n hx hb dX12_initial_0 rfl (lv_at hl 1 rfl) ?_
  refine lv_iconst (v := (1:Int32)) hx hb dX12_initial_1 (by decide) ?_
  refine lv_icmp_ne (tgt := 10) hx hb dX12_initial_2 rfl (fun hc => ?_) (fun hc => ?_)
  · have h := ine hc h
    refine lv_iload_n hx hb dX12_initial_10 rfl (lv_at hl 1 rfl) ?_
    refine lv_iconst (v := (2:Int32)) hx hb dX12_initial_11 (by decide) ?_
    refine lv_icmp_ne (tgt := 21) hx hb dX12_initial_12 rfl (fun hc => ?_) (fun hc => ?_)
    · have h := ine hc h
      refine lv_iload_n hx hb dX12_initial_21 rfl (lv_at hl 1 rfl) ?_
      refine lv_iconst (v := (5:Int32)) hx hb dX12_initial_22 (by decide) ?_
      refine lv_icmp_ne (tgt := 30) hx hb dX12_initial_23 rfl (fun hc => ?_) (fun hc => ?_)
      · have h := ine hc h
        refine lv_iload_n hx hb dX12_initial_30 rfl (lv_at hl 1 rfl) ?_
        refine lv_bipush (v := (8:Int32)) hx hb dX12_initial_31 (by decide) ?_
        refine lv_icmp_eq (tgt := 42) hx hb dX12_initial_33 rfl (fun hc => ?_) (fun hc => ?_)
        · have h := ip hc h
          exact N_initial_42 X hP (lv_sub hl [0] rfl) h
        · have h := ine hc h
          refine lv_iload_n hx hb dX12_initial_36 rfl (lv_at hl 1 rfl) ?_
          refine lv_bipush (v := (11:Int32)) hx hb dX12_initial_37 (by decide) ?_
          refine lv_icmp_ne (tgt := 46) hx hb dX12_initial_39 rfl (fun hc => ?_) (fun hc => ?_)
          · have h := ine hc h
            refine lv_iconst (v := (0:Int32)) hx hb dX12_initial_46 (by decide) ?_
            exact N_initial_47 X hP (lv_sub hl [0] rfl) h
          · have h := ip hc h
            exact N_initial_42 X hP (lv_sub hl [0] rfl) h
      · have h := ip hc h
        refine lv_iconst (v := (1:Int32)) hx hb dX12_initial_26 (by decide) ?_
        refine lv_goto (tgt := 47) hx hb dX12_initial_27 rfl ?_
        exact N_initial_47 X hP (lv_sub hl [0] rfl) h
    · have h := ip hc h
      refine lv_ldcw hx hb hown (hts _ w_2175) dX12_initial_15 ?_
      refine lv_goto (tgt := 47) hx hb dX12_initial_18 rfl ?_
      exact N_initial_47 X hP (lv_sub hl [0] rfl) h
  · have h := ip hc h
    refine lv_bipush (v := (16:Int32)) hx hb dX12_initial_5 (by decide) ?_
    refine lv_goto (tgt := 47) hx hb dX12_initial_7 rfl ?_
    exact N_initial_47 X hP (lv_sub hl [0] rfl) h
theorem cl_initial {p : Program} {l : Launch} {e : Env} {s : State} {m : MethodId} {args : Array Value} {below : List Frame} {meth : Method} {c : Code} {D : mD} {mb : Nat} {H : Heap} {locs : List Loc} {Q : State → Prop} {cc : ByteArray} {pc fR lR nL : Nat} {ls : Array Slot} {rest : List Value} {ret : Option FieldType} {σ : mS} (X : mX p s m args meth c cc nL ret D) (hP : mP D mb σ H) {x1 : Int32} {r : Int32} (h : f_initial x1 = some r) (hr : 0 + 1 ≤ fR ∧ 8 + (2 + 11) + 0 ≤ lR) (hl : ls.size = nL) (hW : (rest.map fun v => v.category).sum ≤ 8) (hdg : decode cc pc = .ok (.invokevirtual 371, 3)) (kk : W p l e (rM fR lR) s m args below meth c H locs 0 0 Q (F0 m (pc + 3) ls (.int r :: rest))) : W p l e (rM fR lR) s m args below meth c H locs 0 0 Q (F0 m pc ls (.int x1 :: .ref mb :: rest)) := m_cr (m_run (n := 1) X (K_initial l D mb σ x1 h) ⟨w_2252, w_2254, w_133, w_2255⟩ (hyX rfl (by decide +kernel)) rfl hr hP hl hW hdg rfl) kk
-- inherited(III)I
def f_inherited_38  (y0 : Int32) (σ : mS) : Option (Int32) := some y0
def f_inherited (x1 : Int32) (x2 : Int32) (x3 : Int32) (σ : mS) : Option (Int32) := (rd σ 77 x1).bind (fun v1 => if (0:Int32) ≤ v1 then ((rd σ 77 x1).bind (fun v2 => (rd σ 43 (((12:Int32) * (((30:Int32) * x3) + v2)) + x2)).bind (fun v3 => f_inherited_38 (v3) σ))) else ((f_initial (x2)).bind (fun v4 => f_inherited_38 (v4) σ)))
set_option maxRecDepth 20000 in
set_option maxHeartbeats 4000000 in
theorem N_inherited_38 {p : Program} {l : Launch} {e : Env} {s : State} {m : MethodId} {args : Array Value} {below : List Frame} {meth : Method} {c : Code} {D : mD} {mb : Nat}   {y0 : Int32} {σ : mS} {ls : Array Slot} {r : Int32} (X : mX p s m args meth c cX12_inherited 4 (some .int) D) (hP : mP D mb σ s.heap)  (hl : lv_has ls 4 [(0, .ref mb)]) (h : f_inherited_38  y0 σ = some r) : mWr p l e 1 21 s m args below meth c (some (.int r)) (F0 m 38 ls [.int y0]) := by
  have hx := X.1
  have hb := X.2.1
  have hown := X.2.2.2.1
  have hts := X.2.2.2.2.1
  have h : (some y0) = some r := h
  obtain rfl := sj h
  exact m_ri X dX12_inherited_38
set_option maxRecDepth 20000 in
set_option maxHeartbeats 4000000 in
theorem K_inherited (l : Launch) (D : mD) (mb : Nat) (σ : mS) (x1 : Int32) (x2 : Int32) (x3 : Int32) {r : Int32} (h : f_inherited x1 x2 x3 σ = some r) : Met l yX12_inherited (Cond.code yX12_inherited cX12_inherited 4 (some .int) :: BG) (rM 1 21) (mPc D mb σ [.int x1, .int x2, .int x3]) (mQr (some (.int r))) 0 0 (fun _ => False) := by
  refine Met.ofW (cc := cX12_inherited) (maxL := 4) (ret := (some .int)) (by decide) rfl ?_
  intro p e s m args below meth c s₁ B hml hv
  obtain ⟨rfl, hP, hK⟩ := hv
  have X := mX_of B hml rfl hK
  have hx := X.1
  have hb := X.2.1
  have hown := X.2.2.2.1
  have hts := X.2.2.2.2.1
  have hl := lv_entry (.ref mb :: [.int x1, .int x2, .int x3]) (n := 4) (Nat.le_of_ble_eq_true rfl)
  rw [lg_entry_eq]
  generalize (lg_sl (.ref mb :: [.int x1, .int x2, .int x3]) ++ List.replicate (4 - (lg_sl (.ref mb :: [.int x1, .int x2, .int x3])).length) Slot.unset).toArray = ls at hl ⊢
  have hl : lv_has ls 4 [(0, .ref mb), (1, .int x1), (2, .int x2), (3, .int x3)] := hl
  show mWr p l e 1 21 s m (Value.ref mb :: [.int x1, .int x2, .int x3]).toArray below meth c (some (.int r)) (F0 m 0 ls [])
  have h : ((rd σ 77 x1).bind (fun v1 => if (0:Int32) ≤ v1 then ((rd σ 77 x1).bind (fun v2 => (rd σ 43 (((12:Int32) * (((30:Int32) * x3) + v2)) + x2)).bind (fun v3 => f_inherited_38 (v3) σ))) else ((f_initial (x2)).bind (fun v4 => f_inherited_38 (v4) σ)))) = some r := h
  refine lv_aload_n hx hb dX12_inherited_0 rfl (lv_at hl 0 rfl) ?_
  refine mg_shp X hP dX12_inherited_1 ?_
  refine lv_iload_n hx hb dX12_inherited_4 rfl (lv_at hl 1 rfl) ?_
  obtain ⟨v1, hv1, h⟩ := ob h
  refine m_ald X hP hv1 dX12_inherited_5 ?_
  refine lv_if_ge (tgt := 17) hx hb dX12_inherited_6 rfl (fun hc => ?_) (fun hc => ?_)
  · have h := ip hc h
    refine lv_aload_n hx hb dX12_inherited_17 rfl (lv_at hl 0 rfl) ?_
    refine mg_val X hP dX12_inherited_18 ?_
    refine lv_bipush (v := (12:Int32)) hx hb dX12_inherited_21 (by decide) ?_
    refine lv_bipush (v := (30:Int32)) hx hb dX12_inherited_23 (by decide) ?_
    refine lv_iload_n hx hb dX12_inherited_25 rfl (lv_at hl 3 rfl) ?_
    refine lv_imul hx hb dX12_inherited_26 ?_
    refine lv_aload_n hx hb dX12_inherited_27 rfl (lv_at hl 0 rfl) ?_
    refine mg_shp X hP dX12_inherited_28 ?_
    refine lv_iload_n hx hb dX12_inherited_31 rfl (lv_at hl 1 rfl) ?_
    obtain ⟨v2, hv2, h⟩ := ob h
    refine m_ald X hP hv2 dX12_inherited_32 ?_
    refine lv_iadd hx hb dX12_inherited_33 ?_
    refine lv_imul hx hb dX12_inherited_34 ?_
    refine lv_iload_n hx hb dX12_inherited_35 rfl (lv_at hl 2 rfl) ?_
    refine lv_iadd hx hb dX12_inherited_36 ?_
    obtain ⟨v3, hv3, h⟩ := ob h
    refine m_ald X hP hv3 dX12_inherited_37 ?_
    exact N_inherited_38 X hP (lv_sub hl [0] rfl) h
  · have h := ine hc h
    refine lv_aload_n hx hb dX12_inherited_9 rfl (lv_at hl 0 rfl) ?_
    refine lv_iload_n hx hb dX12_inherited_10 rfl (lv_at hl 2 rfl) ?_
    obtain ⟨v4, hv4, h⟩ := ob h
    refine cl_initial X hP hv4 ⟨Nat.le_of_ble_eq_true rfl, Nat.le_of_ble_eq_true rfl⟩ hl.1 (Nat.le_of_ble_eq_true rfl) dX12_inherited_11 ?_
    refine lv_goto (tgt := 38) hx hb dX12_inherited_14 rfl ?_
    exact N_inherited_38 X hP (lv_sub hl [0] rfl) h
theorem cl_inherited {p : Program} {l : Launch} {e : Env} {s : State} {m : MethodId} {args : Array Value} {below : List Frame} {meth : Method} {c : Code} {D : mD} {mb : Nat} {H : Heap} {locs : List Loc} {Q : State → Prop} {cc : ByteArray} {pc fR lR nL : Nat} {ls : Array Slot} {rest : List Value} {ret : Option FieldType} {σ : mS} (X : mX p s m args meth c cc nL ret D) (hP : mP D mb σ H) {x1 : Int32} {x2 : Int32} {x3 : Int32} {r : Int32} (h : f_inherited x1 x2 x3 σ = some r) (hr : 1 + 1 ≤ fR ∧ 8 + (4 + 11) + 21 ≤ lR) (hl : ls.size = nL) (hW : (rest.map fun v => v.category).sum ≤ 8) (hdg : decode cc pc = .ok (.invokevirtual 398, 3)) (kk : W p l e (rM fR lR) s m args below meth c H locs 0 0 Q (F0 m (pc + 3) ls (.int r :: rest))) : W p l e (rM fR lR) s m args below meth c H locs 0 0 Q (F0 m pc ls (.int x3 :: .int x2 :: .int x1 :: .ref mb :: rest)) := m_cr (m_run (n := 3) X (K_inherited l D mb σ x1 x2 x3 h) ⟨w_2248, w_2250, w_132, w_2251⟩ (hyX rfl (by decide +kernel)) rfl hr hP hl hW hdg rfl) kk
-- aim(IIIZ)I
def f_aim (x1 : Int32) (x2 : Int32) (x3 : Int32) (x4 : Int32) (σ : mS) : Option (Int32) := (f_found (x1) (((12:Int32) + x2)) (x3) (x4) σ).bind (fun v1 => (rd σ 40 v1).bind (fun v2 => some (v2 - (12:Int32))))
set_option maxRecDepth 20000 in
set_option maxHeartbeats 4000000 in
theorem K_aim (l : Launch) (D : mD) (mb : Nat) (σ : mS) (x1 : Int32) (x2 : Int32) (x3 : Int32) (x4 : Int32) {r : Int32} (h : f_aim x1 x2 x3 x4 σ = some r) : Met l yX12_aim (Cond.code yX12_aim cX12_aim 5 (some .int) :: BG) (rM 7 167) (mPc D mb σ [.int x1, .int x2, .int x3, .int x4]) (mQr (some (.int r))) 0 0 (fun _ => False) := by
  refine Met.ofW (cc := cX12_aim) (maxL := 5) (ret := (some .int)) (by decide) rfl ?_
  intro p e s m args below meth c s₁ B hml hv
  obtain ⟨rfl, hP, hK⟩ := hv
  have X := mX_of B hml rfl hK
  have hx := X.1
  have hb := X.2.1
  have hown := X.2.2.2.1
  have hts := X.2.2.2.2.1
  have hl := lv_entry (.ref mb :: [.int x1, .int x2, .int x3, .int x4]) (n := 5) (Nat.le_of_ble_eq_true rfl)
  rw [lg_entry_eq]
  generalize (lg_sl (.ref mb :: [.int x1, .int x2, .int x3, .int x4]) ++ List.replicate (5 - (lg_sl (.ref mb :: [.int x1, .int x2, .int x3, .int x4])).length) Slot.unset).toArray = ls at hl ⊢
  have hl : lv_has ls 5 [(0, .ref mb), (1, .int x1), (2, .int x2), (3, .int x3), (4, .int x4)] := hl
  show mWr p l e 7 167 s m (Value.ref mb :: [.int x1, .int x2, .int x3, .int x4]).toArray below meth c (some (.int r)) (F0 m 0 ls [])
  have h : ((f_found (x1) (((12:Int32) + x2)) (x3) (x4) σ).bind (fun v1 => (rd σ 40 v1).bind (fun v2 => some (v2 - (12:Int32))))) = some r := h
  refine lv_aload_n hx hb dX12_aim_0 rfl (lv_at hl 0 rfl) ?_
  refine mg_dv X hP dX12_aim_1 ?_
  refine lv_aload_n hx hb dX12_aim_4 rfl (lv_at hl 0 rfl) ?_
  refine lv_iload_n hx hb dX12_aim_5 rfl (lv_at hl 1 rfl) ?_
  refine lv_bipush (v := (12:Int32)) hx hb dX12_aim_6 (by decide) ?_
  refine lv_iload_n hx hb dX12_aim_8 rfl (lv_at hl 2 rfl) ?_
  refine lv_iadd hx hb dX12_aim_9 ?_
  refine lv_iload_n hx hb dX12_aim_10 rfl (lv_at hl 3 rfl) ?_
  refine lv_iload hx hb dX12_aim_11 (lv_at hl 4 rfl) ?_
  obtain ⟨v1, hv1, h⟩ := ob h
  refine cl_found X hP hv1 ⟨Nat.le_of_ble_eq_true rfl, Nat.le_of_ble_eq_true rfl⟩ hl.1 (Nat.le_of_ble_eq_true rfl) dX12_aim_13 ?_
  obtain ⟨v2, hv2, h⟩ := ob h
  refine m_ald X hP hv2 dX12_aim_16 ?_
  refine lv_bipush (v := (12:Int32)) hx hb dX12_aim_17 (by decide) ?_
  refine lv_isub hx hb dX12_aim_19 ?_
  obtain rfl := sj h
  exact m_ri X dX12_aim_20
theorem cl_aim {p : Program} {l : Launch} {e : Env} {s : State} {m : MethodId} {args : Array Value} {below : List Frame} {meth : Method} {c : Code} {D : mD} {mb : Nat} {H : Heap} {locs : List Loc} {Q : State → Prop} {cc : ByteArray} {pc fR lR nL : Nat} {ls : Array Slot} {rest : List Value} {ret : Option FieldType} {σ : mS} (X : mX p s m args meth c cc nL ret D) (hP : mP D mb σ H) {x1 : Int32} {x2 : Int32} {x3 : Int32} {x4 : Int32} {r : Int32} (h : f_aim x1 x2 x3 x4 σ = some r) (hr : 7 + 1 ≤ fR ∧ 8 + (5 + 11) + 167 ≤ lR) (hl : ls.size = nL) (hW : (rest.map fun v => v.category).sum ≤ 8) (hdg : decode cc pc = .ok (.invokevirtual 386, 3)) (kk : W p l e (rM fR lR) s m args below meth c H locs 0 0 Q (F0 m (pc + 3) ls (.int r :: rest))) : W p l e (rM fR lR) s m args below meth c H locs 0 0 Q (F0 m pc ls (.int x4 :: .int x3 :: .int x2 :: .int x1 :: .ref mb :: rest)) := m_cr (m_run (n := 4) X (K_aim l D mb σ x1 x2 x3 x4 h) ⟨w_2240, w_2242, w_130, w_2243⟩ (hyX rfl (by decide +kernel)) rfl hr hP hl hW hdg rfl) kk
