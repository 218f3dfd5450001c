theorem dX12_markHosts_0 : decode cX12_markHosts 0 = .ok (.iload_n 1, 1) := by decide +kernel
theorem dX12_markHosts_1 : decode cX12_markHosts 1 = .ok (.ifCond .lt 18, 3) := by decide +kernel
theorem dX12_markHosts_4 : decode cX12_markHosts 4 = .ok (.aload_n 0, 1) := by decide +kernel
theorem dX12_markHosts_5 : decode cX12_markHosts 5 = .ok (.getfield 34, 3) := by decide +kernel
theorem dX12_markHosts_8 : decode cX12_markHosts 8 = .ok (.iload_n 1, 1) := by decide +kernel
theorem dX12_markHosts_9 : decode cX12_markHosts 9 = .ok (.iaload, 1) := by decide +kernel
theorem dX12_markHosts_10 : decode cX12_markHosts 10 = .ok (.iconst 1, 1) := by decide +kernel
theorem dX12_markHosts_11 : decode cX12_markHosts 11 = .ok (.if_icmp .ne 8, 3) := by decide +kernel
theorem dX12_markHosts_14 : decode cX12_markHosts 14 = .ok (.aload_n 0, 1) := by decide +kernel
theorem dX12_markHosts_15 : decode cX12_markHosts 15 = .ok (.iload_n 1, 1) := by decide +kernel
theorem dX12_markHosts_16 : decode cX12_markHosts 16 = .ok (.invokevirtual 500, 3) := by decide +kernel
theorem dX12_markHosts_19 : decode cX12_markHosts 19 = .ok (.iload_n 2, 1) := by decide +kernel
theorem dX12_markHosts_20 : decode cX12_markHosts 20 = .ok (.ifCond .lt 8, 3) := by decide +kernel
theorem dX12_markHosts_23 : decode cX12_markHosts 23 = .ok (.aload_n 0, 1) := by decide +kernel
theorem dX12_markHosts_24 : decode cX12_markHosts 24 = .ok (.iload_n 2, 1) := by decide +kernel
theorem dX12_markHosts_25 : decode cX12_markHosts 25 = .ok (.invokevirtual 500, 3) := by decide +kernel
theorem dX12_markHosts_28 : decode cX12_markHosts 28 = .ok (.return_, 1) := by decide +kernel
theorem dX12_markWith_0 : decode cX12_markWith 0 = .ok (.aload_n 0, 1) := by decide +kernel
theorem dX12_markWith_1 : decode cX12_markWith 1 = .ok (.iconst 1, 1) := by decide +kernel
theorem dX12_markWith_2 : decode cX12_markWith 2 = .ok (.iload_n 1, 1) := by decide +kernel
theorem dX12_markWith_3 : decode cX12_markWith 3 = .ok (.ishl, 1) := by decide +kernel
theorem dX12_markWith_4 : decode cX12_markWith 4 = .ok (.invokevirtual 497, 3) := by decide +kernel
theorem dX12_markWith_7 : decode cX12_markWith 7 = .ok (.aload_n 0, 1) := by decide +kernel
theorem dX12_markWith_8 : decode cX12_markWith 8 = .ok (.iload_n 1, 1) := by decide +kernel
theorem dX12_markWith_9 : decode cX12_markWith 9 = .ok (.invokevirtual 500, 3) := by decide +kernel
theorem dX12_markWith_12 : decode cX12_markWith 12 = .ok (.return_, 1) := by decide +kernel
theorem dX12_markPlace_0 : decode cX12_markPlace 0 = .ok (.aload_n 0, 1) := by decide +kernel
theorem dX12_markPlace_1 : decode cX12_markPlace 1 = .ok (.invokevirtual 469, 3) := by decide +kernel
theorem dX12_markPlace_4 : decode cX12_markPlace 4 = .ok (.istore 4, 2) := by decide +kernel
theorem dX12_markPlace_6 : decode cX12_markPlace 6 = .ok (.iload_n 1, 1) := by decide +kernel
theorem dX12_markPlace_7 : decode cX12_markPlace 7 = .ok (.istore 5, 2) := by decide +kernel
theorem dX12_markPlace_9 : decode cX12_markPlace 9 = .ok (.iload 5, 2) := by decide +kernel
theorem dX12_markPlace_11 : decode cX12_markPlace 11 = .ok (.ifCond .lt 28, 3) := by decide +kernel
theorem dX12_markPlace_14 : decode cX12_markPlace 14 = .ok (.iload 4, 2) := by decide +kernel
theorem dX12_markPlace_16 : decode cX12_markPlace 16 = .ok (.iconst 2, 1) := by decide +kernel
theorem dX12_markPlace_17 : decode cX12_markPlace 17 = .ok (.irem, 1) := by decide +kernel
theorem dX12_markPlace_18 : decode cX12_markPlace 18 = .ok (.iconst 1, 1) := by decide +kernel
theorem dX12_markPlace_19 : decode cX12_markPlace 19 = .ok (.if_icmp .ne 20, 3) := by decide +kernel
theorem dX12_markPlace_22 : decode cX12_markPlace 22 = .ok (.aload_n 0, 1) := by decide +kernel
theorem dX12_markPlace_23 : decode cX12_markPlace 23 = .ok (.iload 5, 2) := by decide +kernel
theorem dX12_markPlace_25 : decode cX12_markPlace 25 = .ok (.invokevirtual 503, 3) := by decide +kernel
theorem dX12_markPlace_28 : decode cX12_markPlace 28 = .ok (.aload_n 0, 1) := by decide +kernel
theorem dX12_markPlace_29 : decode cX12_markPlace 29 = .ok (.iload 5, 2) := by decide +kernel
theorem dX12_markPlace_31 : decode cX12_markPlace 31 = .ok (.invokevirtual 251, 3) := by decide +kernel
theorem dX12_markPlace_34 : decode cX12_markPlace 34 = .ok (.istore 5, 2) := by decide +kernel
theorem dX12_markPlace_36 : decode cX12_markPlace 36 = .ok (.goto (-27), 3) := by decide +kernel
theorem dX12_markPlace_39 : decode cX12_markPlace 39 = .ok (.aload_n 0, 1) := by decide +kernel
theorem dX12_markPlace_40 : decode cX12_markPlace 40 = .ok (.iload_n 2, 1) := by decide +kernel
theorem dX12_markPlace_41 : decode cX12_markPlace 41 = .ok (.iload_n 3, 1) := by decide +kernel
theorem dX12_markPlace_42 : decode cX12_markPlace 42 = .ok (.invokevirtual 506, 3) := by decide +kernel
theorem dX12_markPlace_45 : decode cX12_markPlace 45 = .ok (.iload 4, 2) := by decide +kernel
theorem dX12_markPlace_47 : decode cX12_markPlace 47 = .ok (.iconst 1, 1) := by decide +kernel
theorem dX12_markPlace_48 : decode cX12_markPlace 48 = .ok (.if_icmp .le 7, 3) := by decide +kernel
theorem dX12_markPlace_51 : decode cX12_markPlace 51 = .ok (.aload_n 0, 1) := by decide +kernel
theorem dX12_markPlace_52 : decode cX12_markPlace 52 = .ok (.invokevirtual 509, 3) := by decide +kernel
theorem dX12_markPlace_55 : decode cX12_markPlace 55 = .ok (.return_, 1) := by decide +kernel
theorem dX12_make_0 : decode cX12_make 0 = .ok (.aload_n 0, 1) := by decide +kernel
theorem dX12_make_1 : decode cX12_make 1 = .ok (.aload_n 0, 1) := by decide +kernel
theorem dX12_make_2 : decode cX12_make 2 = .ok (.iload_n 1, 1) := by decide +kernel
theorem dX12_make_3 : decode cX12_make 3 = .ok (.iconst 0, 1) := by decide +kernel
theorem dX12_make_4 : decode cX12_make 4 = .ok (.bipush 7, 2) := by decide +kernel
theorem dX12_make_6 : decode cX12_make 6 = .ok (.invokevirtual 230, 3) := by decide +kernel
theorem dX12_make_9 : decode cX12_make 9 = .ok (.ifCond .ne 7, 3) := by decide +kernel
theorem dX12_make_12 : decode cX12_make 12 = .ok (.iconst 1, 1) := by decide +kernel
theorem dX12_make_13 : decode cX12_make 13 = .ok (.goto 17, 3) := by decide +kernel
theorem dX12_make_16 : decode cX12_make 16 = .ok (.aload_n 0, 1) := by decide +kernel
theorem dX12_make_17 : decode cX12_make 17 = .ok (.getfield 217, 3) := by decide +kernel
theorem dX12_make_20 : decode cX12_make 20 = .ok (.bipush 30, 2) := by decide +kernel
theorem dX12_make_22 : decode cX12_make 22 = .ok (.if_icmp .ne 7, 3) := by decide +kernel
theorem dX12_make_25 : decode cX12_make 25 = .ok (.iconst 2, 1) := by decide +kernel
theorem dX12_make_26 : decode cX12_make 26 = .ok (.goto 4, 3) := by decide +kernel
theorem dX12_make_29 : decode cX12_make 29 = .ok (.iconst 0, 1) := by decide +kernel
theorem dX12_make_30 : decode cX12_make 30 = .ok (.invokevirtual 512, 3) := by decide +kernel
theorem dX12_make_33 : decode cX12_make 33 = .ok (.ifCond .eq 5, 3) := by decide +kernel
theorem dX12_make_36 : decode cX12_make 36 = .ok (.iconst (-1), 1) := by decide +kernel
theorem dX12_make_37 : decode cX12_make 37 = .ok (.ireturn, 1) := by decide +kernel
theorem dX12_make_38 : decode cX12_make 38 = .ok (.aload_n 0, 1) := by decide +kernel
theorem dX12_make_39 : decode cX12_make 39 = .ok (.getfield 7, 3) := by decide +kernel
theorem dX12_make_42 : decode cX12_make 42 = .ok (.aload_n 0, 1) := by decide +kernel
theorem dX12_make_43 : decode cX12_make 43 = .ok (.getfield 217, 3) := by decide +kernel
theorem dX12_make_46 : decode cX12_make 46 = .ok (.iload_n 1, 1) := by decide +kernel
theorem dX12_make_47 : decode cX12_make 47 = .ok (.iastore, 1) := by decide +kernel
theorem dX12_make_48 : decode cX12_make 48 = .ok (.aload_n 0, 1) := by decide +kernel
theorem dX12_make_49 : decode cX12_make 49 = .ok (.dup, 1) := by decide +kernel
theorem dX12_make_50 : decode cX12_make 50 = .ok (.getfield 217, 3) := by decide +kernel
theorem dX12_make_53 : decode cX12_make 53 = .ok (.iconst 1, 1) := by decide +kernel
theorem dX12_make_54 : decode cX12_make 54 = .ok (.iadd, 1) := by decide +kernel
theorem dX12_make_55 : decode cX12_make 55 = .ok (.putfield 217, 3) := by decide +kernel
theorem dX12_make_58 : decode cX12_make 58 = .ok (.aload_n 0, 1) := by decide +kernel
theorem dX12_make_59 : decode cX12_make 59 = .ok (.getfield 217, 3) := by decide +kernel
theorem dX12_make_62 : decode cX12_make 62 = .ok (.iconst 1, 1) := by decide +kernel
theorem dX12_make_63 : decode cX12_make 63 = .ok (.isub, 1) := by decide +kernel
theorem dX12_make_64 : decode cX12_make 64 = .ok (.ireturn, 1) := by decide +kernel
theorem dX12_shadow_0 : decode cX12_shadow 0 = .ok (.aload_n 0, 1) := by decide +kernel
theorem dX12_shadow_1 : decode cX12_shadow 1 = .ok (.aload_n 0, 1) := by decide +kernel
theorem dX12_shadow_2 : decode cX12_shadow 2 = .ok (.iload_n 1, 1) := by decide +kernel
theorem dX12_shadow_3 : decode cX12_shadow 3 = .ok (.invokevirtual 234, 3) := by decide +kernel
theorem dX12_shadow_6 : decode cX12_shadow 6 = .ok (.ifCond .ne 7, 3) := by decide +kernel
theorem dX12_shadow_9 : decode cX12_shadow 9 = .ok (.iconst 1, 1) := by decide +kernel
theorem dX12_shadow_10 : decode cX12_shadow 10 = .ok (.goto 18, 3) := by decide +kernel
theorem dX12_shadow_13 : decode cX12_shadow 13 = .ok (.aload_n 0, 1) := by decide +kernel
theorem dX12_shadow_14 : decode cX12_shadow 14 = .ok (.getfield 34, 3) := by decide +kernel
theorem dX12_shadow_17 : decode cX12_shadow 17 = .ok (.iload_n 1, 1) := by decide +kernel
theorem dX12_shadow_18 : decode cX12_shadow 18 = .ok (.iaload, 1) := by decide +kernel
theorem dX12_shadow_19 : decode cX12_shadow 19 = .ok (.iconst 1, 1) := by decide +kernel
theorem dX12_shadow_20 : decode cX12_shadow 20 = .ok (.if_icmp .ne 7, 3) := by decide +kernel
theorem dX12_shadow_23 : decode cX12_shadow 23 = .ok (.iconst 2, 1) := by decide +kernel
theorem dX12_shadow_24 : decode cX12_shadow 24 = .ok (.goto 4, 3) := by decide +kernel
theorem dX12_shadow_27 : decode cX12_shadow 27 = .ok (.iconst 0, 1) := by decide +kernel
theorem dX12_shadow_28 : decode cX12_shadow 28 = .ok (.invokevirtual 512, 3) := by decide +kernel
theorem dX12_shadow_31 : decode cX12_shadow 31 = .ok (.ifCond .ne 14, 3) := by decide +kernel
theorem dX12_shadow_34 : decode cX12_shadow 34 = .ok (.aload_n 0, 1) := by decide +kernel
theorem dX12_shadow_35 : decode cX12_shadow 35 = .ok (.getfield 34, 3) := by decide +kernel
theorem dX12_shadow_38 : decode cX12_shadow 38 = .ok (.iload_n 1, 1) := by decide +kernel
theorem dX12_shadow_39 : decode cX12_shadow 39 = .ok (.iconst 1, 1) := by decide +kernel
theorem dX12_shadow_40 : decode cX12_shadow 40 = .ok (.iastore, 1) := by decide +kernel
theorem dX12_shadow_41 : decode cX12_shadow 41 = .ok (.aload_n 0, 1) := by decide +kernel
theorem dX12_shadow_42 : decode cX12_shadow 42 = .ok (.invokevirtual 509, 3) := by decide +kernel
theorem dX12_shadow_45 : decode cX12_shadow 45 = .ok (.return_, 1) := by decide +kernel
theorem dX12_within_0 : decode cX12_within 0 = .ok (.iload_n 1, 1) := by decide +kernel
theorem dX12_within_1 : decode cX12_within 1 = .ok (.istore_n 3, 1) := by decide +kernel
theorem dX12_within_2 : decode cX12_within 2 = .ok (.iload_n 3, 1) := by decide +kernel
theorem dX12_within_3 : decode cX12_within 3 = .ok (.ifCond .lt 36, 3) := by decide +kernel
theorem dX12_within_6 : decode cX12_within 6 = .ok (.iload_n 3, 1) := by decide +kernel
theorem dX12_within_7 : decode cX12_within 7 = .ok (.iload_n 2, 1) := by decide +kernel
theorem dX12_within_8 : decode cX12_within 8 = .ok (.if_icmp .eq 31, 3) := by decide +kernel
theorem dX12_within_11 : decode cX12_within 11 = .ok (.aload_n 0, 1) := by decide +kernel
theorem dX12_within_12 : decode cX12_within 12 = .ok (.getfield 28, 3) := by decide +kernel
theorem dX12_within_15 : decode cX12_within 15 = .ok (.iload_n 3, 1) := by decide +kernel
theorem dX12_within_16 : decode cX12_within 16 = .ok (.iaload, 1) := by decide +kernel
theorem dX12_within_17 : decode cX12_within 17 = .ok (.ifCond .lt 12, 3) := by decide +kernel
theorem dX12_within_20 : decode cX12_within 20 = .ok (.aload_n 0, 1) := by decide +kernel
theorem dX12_within_21 : decode cX12_within 21 = .ok (.getfield 28, 3) := by decide +kernel
theorem dX12_within_24 : decode cX12_within 24 = .ok (.iload_n 3, 1) := by decide +kernel
theorem dX12_within_25 : decode cX12_within 25 = .ok (.iaload, 1) := by decide +kernel
theorem dX12_within_26 : decode cX12_within 26 = .ok (.goto 9, 3) := by decide +kernel
theorem dX12_within_29 : decode cX12_within 29 = .ok (.aload_n 0, 1) := by decide +kernel
theorem dX12_within_30 : decode cX12_within 30 = .ok (.getfield 31, 3) := by decide +kernel
theorem dX12_within_33 : decode cX12_within 33 = .ok (.iload_n 3, 1) := by decide +kernel
theorem dX12_within_34 : decode cX12_within 34 = .ok (.iaload, 1) := by decide +kernel
theorem dX12_within_35 : decode cX12_within 35 = .ok (.istore_n 3, 1) := by decide +kernel
theorem dX12_within_36 : decode cX12_within 36 = .ok (.goto (-34), 3) := by decide +kernel
theorem dX12_within_39 : decode cX12_within 39 = .ok (.iload_n 3, 1) := by decide +kernel
theorem dX12_within_40 : decode cX12_within 40 = .ok (.iload_n 2, 1) := by decide +kernel
theorem dX12_within_41 : decode cX12_within 41 = .ok (.if_icmp .ne 7, 3) := by decide +kernel
theorem dX12_within_44 : decode cX12_within 44 = .ok (.iconst 1, 1) := by decide +kernel
theorem dX12_within_45 : decode cX12_within 45 = .ok (.goto 4, 3) := by decide +kernel
theorem dX12_within_48 : decode cX12_within 48 = .ok (.iconst 0, 1) := by decide +kernel
theorem dX12_within_49 : decode cX12_within 49 = .ok (.ireturn, 1) := by decide +kernel
theorem dX12_loose_0 : decode cX12_loose 0 = .ok (.iload_n 1, 1) := by decide +kernel
theorem dX12_loose_1 : decode cX12_loose 1 = .ok (.ifCond .eq 25, 3) := by decide +kernel
theorem dX12_loose_4 : decode cX12_loose 4 = .ok (.aload_n 0, 1) := by decide +kernel
theorem dX12_loose_5 : decode cX12_loose 5 = .ok (.getfield 28, 3) := by decide +kernel
theorem dX12_loose_8 : decode cX12_loose 8 = .ok (.iload_n 1, 1) := by decide +kernel
theorem dX12_loose_9 : decode cX12_loose 9 = .ok (.iaload, 1) := by decide +kernel
theorem dX12_loose_10 : decode cX12_loose 10 = .ok (.ifCond .ge 16, 3) := by decide +kernel
theorem dX12_loose_13 : decode cX12_loose 13 = .ok (.aload_n 0, 1) := by decide +kernel
theorem dX12_loose_14 : decode cX12_loose 14 = .ok (.getfield 31, 3) := by decide +kernel
theorem dX12_loose_17 : decode cX12_loose 17 = .ok (.iload_n 1, 1) := by decide +kernel
theorem dX12_loose_18 : decode cX12_loose 18 = .ok (.iaload, 1) := by decide +kernel
theorem dX12_loose_19 : decode cX12_loose 19 = .ok (.ifCond .ge 7, 3) := by decide +kernel
theorem dX12_loose_22 : decode cX12_loose 22 = .ok (.iconst 1, 1) := by decide +kernel
theorem dX12_loose_23 : decode cX12_loose 23 = .ok (.goto 4, 3) := by decide +kernel
theorem dX12_loose_26 : decode cX12_loose 26 = .ok (.iconst 0, 1) := by decide +kernel
theorem dX12_loose_27 : decode cX12_loose 27 = .ok (.ireturn, 1) := by decide +kernel
theorem dX12_put_0 : decode cX12_put 0 = .ok (.aload_n 0, 1) := by decide +kernel
theorem dX12_put_1 : decode cX12_put 1 = .ok (.iload_n 1, 1) := by decide +kernel
theorem dX12_put_2 : decode cX12_put 2 = .ok (.invokevirtual 234, 3) := by decide +kernel
theorem dX12_put_5 : decode cX12_put 5 = .ok (.ifCond .eq 30, 3) := by decide +kernel
theorem dX12_put_8 : decode cX12_put 8 = .ok (.aload_n 0, 1) := by decide +kernel
theorem dX12_put_9 : decode cX12_put 9 = .ok (.iload_n 2, 1) := by decide +kernel
theorem dX12_put_10 : decode cX12_put 10 = .ok (.invokevirtual 234, 3) := by decide +kernel
theorem dX12_put_13 : decode cX12_put 13 = .ok (.ifCond .eq 22, 3) := by decide +kernel
theorem dX12_put_16 : decode cX12_put 16 = .ok (.aload_n 0, 1) := by decide +kernel
theorem dX12_put_17 : decode cX12_put 17 = .ok (.iload_n 3, 1) := by decide +kernel
theorem dX12_put_18 : decode cX12_put 18 = .ok (.iconst 0, 1) := by decide +kernel
theorem dX12_put_19 : decode cX12_put 19 = .ok (.aload_n 0, 1) := by decide +kernel
theorem dX12_put_20 : decode cX12_put 20 = .ok (.getfield 40, 3) := by decide +kernel
theorem dX12_put_23 : decode cX12_put 23 = .ok (.iload_n 2, 1) := by decide +kernel
theorem dX12_put_24 : decode cX12_put 24 = .ok (.iaload, 1) := by decide +kernel
theorem dX12_put_25 : decode cX12_put 25 = .ok (.invokevirtual 230, 3) := by decide +kernel
theorem dX12_put_28 : decode cX12_put 28 = .ok (.ifCond .eq 7, 3) := by decide +kernel
theorem dX12_put_31 : decode cX12_put 31 = .ok (.iconst 1, 1) := by decide +kernel
theorem dX12_put_32 : decode cX12_put 32 = .ok (.goto 4, 3) := by decide +kernel
theorem dX12_put_35 : decode cX12_put 35 = .ok (.iconst 0, 1) := by decide +kernel
theorem dX12_put_36 : decode cX12_put 36 = .ok (.istore 4, 2) := by decide +kernel
theorem dX12_put_38 : decode cX12_put 38 = .ok (.aload_n 0, 1) := by decide +kernel
theorem dX12_put_39 : decode cX12_put 39 = .ok (.iload 4, 2) := by decide +kernel
theorem dX12_put_41 : decode cX12_put 41 = .ok (.ifCond .ne 7, 3) := by decide +kernel
theorem dX12_put_44 : decode cX12_put 44 = .ok (.iconst 1, 1) := by decide +kernel
theorem dX12_put_45 : decode cX12_put 45 = .ok (.goto 25, 3) := by decide +kernel
theorem dX12_put_48 : decode cX12_put 48 = .ok (.aload_n 0, 1) := by decide +kernel
theorem dX12_put_49 : decode cX12_put 49 = .ok (.iload_n 1, 1) := by decide +kernel
theorem dX12_put_50 : decode cX12_put 50 = .ok (.invokevirtual 515, 3) := by decide +kernel
theorem dX12_put_53 : decode cX12_put 53 = .ok (.ifCond .eq 12, 3) := by decide +kernel
theorem dX12_put_56 : decode cX12_put 56 = .ok (.aload_n 0, 1) := by decide +kernel
theorem dX12_put_57 : decode cX12_put 57 = .ok (.iload_n 2, 1) := by decide +kernel
theorem dX12_put_58 : decode cX12_put 58 = .ok (.iload_n 1, 1) := by decide +kernel
theorem dX12_put_59 : decode cX12_put 59 = .ok (.invokevirtual 518, 3) := by decide +kernel
theorem dX12_put_62 : decode cX12_put 62 = .ok (.ifCond .eq 7, 3) := by decide +kernel
theorem dX12_put_65 : decode cX12_put 65 = .ok (.iconst 2, 1) := by decide +kernel
theorem dX12_put_66 : decode cX12_put 66 = .ok (.goto 4, 3) := by decide +kernel
theorem dX12_put_69 : decode cX12_put 69 = .ok (.iconst 0, 1) := by decide +kernel
theorem dX12_put_70 : decode cX12_put 70 = .ok (.invokevirtual 512, 3) := by decide +kernel
theorem dX12_put_73 : decode cX12_put 73 = .ok (.ifCond .ne 98, 3) := by decide +kernel
theorem dX12_put_76 : decode cX12_put 76 = .ok (.aload_n 0, 1) := by decide +kernel
theorem dX12_put_77 : decode cX12_put 77 = .ok (.getfield 40, 3) := by decide +kernel
theorem dX12_put_80 : decode cX12_put 80 = .ok (.iload_n 2, 1) := by decide +kernel
theorem dX12_put_81 : decode cX12_put 81 = .ok (.iaload, 1) := by decide +kernel
theorem dX12_put_82 : decode cX12_put 82 = .ok (.istore 5, 2) := by decide +kernel
theorem dX12_put_84 : decode cX12_put 84 = .ok (.iload 5, 2) := by decide +kernel
theorem dX12_put_86 : decode cX12_put 86 = .ok (.iload_n 3, 1) := by decide +kernel
theorem dX12_put_87 : decode cX12_put 87 = .ok (.if_icmp .le 35, 3) := by decide +kernel
theorem dX12_put_90 : decode cX12_put 90 = .ok (.aload_n 0, 1) := by decide +kernel
theorem dX12_put_91 : decode cX12_put 91 = .ok (.getfield 37, 3) := by decide +kernel
theorem dX12_put_94 : decode cX12_put 94 = .ok (.bipush 30, 2) := by decide +kernel
theorem dX12_put_96 : decode cX12_put 96 = .ok (.iload_n 2, 1) := by decide +kernel
theorem dX12_put_97 : decode cX12_put 97 = .ok (.imul, 1) := by decide +kernel
theorem dX12_put_98 : decode cX12_put 98 = .ok (.iload 5, 2) := by decide +kernel
theorem dX12_put_100 : decode cX12_put 100 = .ok (.iadd, 1) := by decide +kernel
theorem dX12_put_101 : decode cX12_put 101 = .ok (.aload_n 0, 1) := by decide +kernel
theorem dX12_put_102 : decode cX12_put 102 = .ok (.getfield 37, 3) := by decide +kernel
theorem dX12_put_105 : decode cX12_put 105 = .ok (.bipush 30, 2) := by decide +kernel
theorem dX12_put_107 : decode cX12_put 107 = .ok (.iload_n 2, 1) := by decide +kernel
theorem dX12_put_108 : decode cX12_put 108 = .ok (.imul, 1) := by decide +kernel
theorem dX12_put_109 : decode cX12_put 109 = .ok (.iload 5, 2) := by decide +kernel
theorem dX12_put_111 : decode cX12_put 111 = .ok (.iadd, 1) := by decide +kernel
theorem dX12_put_112 : decode cX12_put 112 = .ok (.iconst 1, 1) := by decide +kernel
theorem dX12_put_113 : decode cX12_put 113 = .ok (.isub, 1) := by decide +kernel
theorem dX12_put_114 : decode cX12_put 114 = .ok (.iaload, 1) := by decide +kernel
theorem dX12_put_115 : decode cX12_put 115 = .ok (.iastore, 1) := by decide +kernel
theorem dX12_put_116 : decode cX12_put 116 = .ok (.iinc 5 (-1), 3) := by decide +kernel
theorem dX12_put_119 : decode cX12_put 119 = .ok (.goto (-35), 3) := by decide +kernel
theorem dX12_put_122 : decode cX12_put 122 = .ok (.aload_n 0, 1) := by decide +kernel
theorem dX12_put_123 : decode cX12_put 123 = .ok (.getfield 37, 3) := by decide +kernel
theorem dX12_put_126 : decode cX12_put 126 = .ok (.bipush 30, 2) := by decide +kernel
theorem dX12_put_128 : decode cX12_put 128 = .ok (.iload_n 2, 1) := by decide +kernel
theorem dX12_put_129 : decode cX12_put 129 = .ok (.imul, 1) := by decide +kernel
theorem dX12_put_130 : decode cX12_put 130 = .ok (.iload_n 3, 1) := by decide +kernel
theorem dX12_put_131 : decode cX12_put 131 = .ok (.iadd, 1) := by decide +kernel
theorem dX12_put_132 : decode cX12_put 132 = .ok (.iload_n 1, 1) := by decide +kernel
theorem dX12_put_133 : decode cX12_put 133 = .ok (.iastore, 1) := by decide +kernel
theorem dX12_put_134 : decode cX12_put 134 = .ok (.aload_n 0, 1) := by decide +kernel
theorem dX12_put_135 : decode cX12_put 135 = .ok (.getfield 40, 3) := by decide +kernel
theorem dX12_put_138 : decode cX12_put 138 = .ok (.iload_n 2, 1) := by decide +kernel
theorem dX12_put_139 : decode cX12_put 139 = .ok (.dup2, 1) := by decide +kernel
theorem dX12_put_140 : decode cX12_put 140 = .ok (.iaload, 1) := by decide +kernel
theorem dX12_put_141 : decode cX12_put 141 = .ok (.iconst 1, 1) := by decide +kernel
theorem dX12_put_142 : decode cX12_put 142 = .ok (.iadd, 1) := by decide +kernel
theorem dX12_put_143 : decode cX12_put 143 = .ok (.iastore, 1) := by decide +kernel
theorem dX12_put_144 : decode cX12_put 144 = .ok (.aload_n 0, 1) := by decide +kernel
theorem dX12_put_145 : decode cX12_put 145 = .ok (.getfield 28, 3) := by decide +kernel
theorem dX12_put_148 : decode cX12_put 148 = .ok (.iload_n 1, 1) := by decide +kernel
theorem dX12_put_149 : decode cX12_put 149 = .ok (.iload_n 2, 1) := by decide +kernel
theorem dX12_put_150 : decode cX12_put 150 = .ok (.iastore, 1) := by decide +kernel
theorem dX12_put_151 : decode cX12_put 151 = .ok (.aload_n 0, 1) := by decide +kernel
theorem dX12_put_152 : decode cX12_put 152 = .ok (.iload_n 1, 1) := by decide +kernel
theorem dX12_put_153 : decode cX12_put 153 = .ok (.invokevirtual 503, 3) := by decide +kernel
theorem dX12_put_156 : decode cX12_put 156 = .ok (.aload_n 0, 1) := by decide +kernel
theorem dX12_put_157 : decode cX12_put 157 = .ok (.aload_n 0, 1) := by decide +kernel
theorem dX12_put_158 : decode cX12_put 158 = .ok (.iload_n 1, 1) := by decide +kernel
theorem dX12_put_159 : decode cX12_put 159 = .ok (.invokevirtual 251, 3) := by decide +kernel
theorem dX12_put_162 : decode cX12_put 162 = .ok (.iload_n 2, 1) := by decide +kernel
theorem dX12_put_163 : decode cX12_put 163 = .ok (.aload_n 0, 1) := by decide +kernel
theorem dX12_put_164 : decode cX12_put 164 = .ok (.iload_n 1, 1) := by decide +kernel
theorem dX12_put_165 : decode cX12_put 165 = .ok (.invokevirtual 242, 3) := by decide +kernel
theorem dX12_put_168 : decode cX12_put 168 = .ok (.invokevirtual 521, 3) := by decide +kernel
theorem dX12_put_171 : decode cX12_put 171 = .ok (.return_, 1) := by decide +kernel
theorem dX12_putTop_0 : decode cX12_putTop 0 = .ok (.aload_n 0, 1) := by decide +kernel
theorem dX12_putTop_1 : decode cX12_putTop 1 = .ok (.iload_n 1, 1) := by decide +kernel
theorem dX12_putTop_2 : decode cX12_putTop 2 = .ok (.invokevirtual 234, 3) := by decide +kernel
theorem dX12_putTop_5 : decode cX12_putTop 5 = .ok (.ifCond .eq 40, 3) := by decide +kernel
theorem dX12_putTop_8 : decode cX12_putTop 8 = .ok (.aload_n 0, 1) := by decide +kernel
theorem dX12_putTop_9 : decode cX12_putTop 9 = .ok (.iload_n 2, 1) := by decide +kernel
theorem dX12_putTop_10 : decode cX12_putTop 10 = .ok (.invokevirtual 234, 3) := by decide +kernel
theorem dX12_putTop_13 : decode cX12_putTop 13 = .ok (.ifCond .eq 32, 3) := by decide +kernel
theorem dX12_putTop_16 : decode cX12_putTop 16 = .ok (.aload_n 0, 1) := by decide +kernel
theorem dX12_putTop_17 : decode cX12_putTop 17 = .ok (.getfield 34, 3) := by decide +kernel
theorem dX12_putTop_20 : decode cX12_putTop 20 = .ok (.iload_n 2, 1) := by decide +kernel
theorem dX12_putTop_21 : decode cX12_putTop 21 = .ok (.iaload, 1) := by decide +kernel
theorem dX12_putTop_22 : decode cX12_putTop 22 = .ok (.iconst 1, 1) := by decide +kernel
theorem dX12_putTop_23 : decode cX12_putTop 23 = .ok (.if_icmp .ne 22, 3) := by decide +kernel
theorem dX12_putTop_26 : decode cX12_putTop 26 = .ok (.aload_n 0, 1) := by decide +kernel
theorem dX12_putTop_27 : decode cX12_putTop 27 = .ok (.iload_n 3, 1) := by decide +kernel
theorem dX12_putTop_28 : decode cX12_putTop 28 = .ok (.iconst 0, 1) := by decide +kernel
theorem dX12_putTop_29 : decode cX12_putTop 29 = .ok (.aload_n 0, 1) := by decide +kernel
theorem dX12_putTop_30 : decode cX12_putTop 30 = .ok (.getfield 46, 3) := by decide +kernel
theorem dX12_putTop_33 : decode cX12_putTop 33 = .ok (.iload_n 2, 1) := by decide +kernel
theorem dX12_putTop_34 : decode cX12_putTop 34 = .ok (.iaload, 1) := by decide +kernel
theorem dX12_putTop_35 : decode cX12_putTop 35 = .ok (.invokevirtual 230, 3) := by decide +kernel
theorem dX12_putTop_38 : decode cX12_putTop 38 = .ok (.ifCond .eq 7, 3) := by decide +kernel
theorem dX12_putTop_41 : decode cX12_putTop 41 = .ok (.iconst 1, 1) := by decide +kernel
theorem dX12_putTop_42 : decode cX12_putTop 42 = .ok (.goto 4, 3) := by decide +kernel
theorem dX12_putTop_45 : decode cX12_putTop 45 = .ok (.iconst 0, 1) := by decide +kernel
theorem dX12_putTop_46 : decode cX12_putTop 46 = .ok (.istore 4, 2) := by decide +kernel
theorem dX12_putTop_48 : decode cX12_putTop 48 = .ok (.aload_n 0, 1) := by decide +kernel
theorem dX12_putTop_49 : decode cX12_putTop 49 = .ok (.iload 4, 2) := by decide +kernel
theorem dX12_putTop_51 : decode cX12_putTop 51 = .ok (.ifCond .ne 7, 3) := by decide +kernel
theorem dX12_putTop_54 : decode cX12_putTop 54 = .ok (.iconst 1, 1) := by decide +kernel
theorem dX12_putTop_55 : decode cX12_putTop 55 = .ok (.goto 25, 3) := by decide +kernel
theorem dX12_putTop_58 : decode cX12_putTop 58 = .ok (.aload_n 0, 1) := by decide +kernel
theorem dX12_putTop_59 : decode cX12_putTop 59 = .ok (.iload_n 1, 1) := by decide +kernel
theorem dX12_putTop_60 : decode cX12_putTop 60 = .ok (.invokevirtual 515, 3) := by decide +kernel
theorem dX12_putTop_63 : decode cX12_putTop 63 = .ok (.ifCond .eq 12, 3) := by decide +kernel
theorem dX12_putTop_66 : decode cX12_putTop 66 = .ok (.aload_n 0, 1) := by decide +kernel
theorem dX12_putTop_67 : decode cX12_putTop 67 = .ok (.iload_n 2, 1) := by decide +kernel
theorem dX12_putTop_68 : decode cX12_putTop 68 = .ok (.iload_n 1, 1) := by decide +kernel
theorem dX12_putTop_69 : decode cX12_putTop 69 = .ok (.invokevirtual 518, 3) := by decide +kernel
theorem dX12_putTop_72 : decode cX12_putTop 72 = .ok (.ifCond .eq 7, 3) := by decide +kernel
theorem dX12_putTop_75 : decode cX12_putTop 75 = .ok (.iconst 2, 1) := by decide +kernel
theorem dX12_putTop_76 : decode cX12_putTop 76 = .ok (.goto 4, 3) := by decide +kernel
theorem dX12_putTop_79 : decode cX12_putTop 79 = .ok (.iconst 0, 1) := by decide +kernel
theorem dX12_putTop_80 : decode cX12_putTop 80 = .ok (.invokevirtual 512, 3) := by decide +kernel
theorem dX12_putTop_83 : decode cX12_putTop 83 = .ok (.ifCond .ne 94, 3) := by decide +kernel
theorem dX12_putTop_86 : decode cX12_putTop 86 = .ok (.aload_n 0, 1) := by decide +kernel
theorem dX12_putTop_87 : decode cX12_putTop 87 = .ok (.getfield 46, 3) := by decide +kernel
theorem dX12_putTop_90 : decode cX12_putTop 90 = .ok (.iload_n 2, 1) := by decide +kernel
theorem dX12_putTop_91 : decode cX12_putTop 91 = .ok (.iaload, 1) := by decide +kernel
theorem dX12_putTop_92 : decode cX12_putTop 92 = .ok (.istore 5, 2) := by decide +kernel
theorem dX12_putTop_94 : decode cX12_putTop 94 = .ok (.iload 5, 2) := by decide +kernel
theorem dX12_putTop_96 : decode cX12_putTop 96 = .ok (.iload_n 3, 1) := by decide +kernel
theorem dX12_putTop_97 : decode cX12_putTop 97 = .ok (.if_icmp .le 35, 3) := by decide +kernel
theorem dX12_putTop_100 : decode cX12_putTop 100 = .ok (.aload_n 0, 1) := by decide +kernel
theorem dX12_putTop_101 : decode cX12_putTop 101 = .ok (.getfield 43, 3) := by decide +kernel
theorem dX12_putTop_104 : decode cX12_putTop 104 = .ok (.bipush 30, 2) := by decide +kernel
theorem dX12_putTop_106 : decode cX12_putTop 106 = .ok (.iload_n 2, 1) := by decide +kernel
theorem dX12_putTop_107 : decode cX12_putTop 107 = .ok (.imul, 1) := by decide +kernel
theorem dX12_putTop_108 : decode cX12_putTop 108 = .ok (.iload 5, 2) := by decide +kernel
theorem dX12_putTop_110 : decode cX12_putTop 110 = .ok (.iadd, 1) := by decide +kernel
theorem dX12_putTop_111 : decode cX12_putTop 111 = .ok (.aload_n 0, 1) := by decide +kernel
theorem dX12_putTop_112 : decode cX12_putTop 112 = .ok (.getfield 43, 3) := by decide +kernel
theorem dX12_putTop_115 : decode cX12_putTop 115 = .ok (.bipush 30, 2) := by decide +kernel
theorem dX12_putTop_117 : decode cX12_putTop 117 = .ok (.iload_n 2, 1) := by decide +kernel
theorem dX12_putTop_118 : decode cX12_putTop 118 = .ok (.imul, 1) := by decide +kernel
theorem dX12_putTop_119 : decode cX12_putTop 119 = .ok (.iload 5, 2) := by decide +kernel
theorem dX12_putTop_121 : decode cX12_putTop 121 = .ok (.iadd, 1) := by decide +kernel
theorem dX12_putTop_122 : decode cX12_putTop 122 = .ok (.iconst 1, 1) := by decide +kernel
theorem dX12_putTop_123 : decode cX12_putTop 123 = .ok (.isub, 1) := by decide +kernel
theorem dX12_putTop_124 : decode cX12_putTop 124 = .ok (.iaload, 1) := by decide +kernel
theorem dX12_putTop_125 : decode cX12_putTop 125 = .ok (.iastore, 1) := by decide +kernel
theorem dX12_putTop_126 : decode cX12_putTop 126 = .ok (.iinc 5 (-1), 3) := by decide +kernel
theorem dX12_putTop_129 : decode cX12_putTop 129 = .ok (.goto (-35), 3) := by decide +kernel
theorem dX12_putTop_132 : decode cX12_putTop 132 = .ok (.aload_n 0, 1) := by decide +kernel
theorem dX12_putTop_133 : decode cX12_putTop 133 = .ok (.getfield 43, 3) := by decide +kernel
theorem dX12_putTop_136 : decode cX12_putTop 136 = .ok (.bipush 30, 2) := by decide +kernel
theorem dX12_putTop_138 : decode cX12_putTop 138 = .ok (.iload_n 2, 1) := by decide +kernel
theorem dX12_putTop_139 : decode cX12_putTop 139 = .ok (.imul, 1) := by decide +kernel
theorem dX12_putTop_140 : decode cX12_putTop 140 = .ok (.iload_n 3, 1) := by decide +kernel
theorem dX12_putTop_141 : decode cX12_putTop 141 = .ok (.iadd, 1) := by decide +kernel
theorem dX12_putTop_142 : decode cX12_putTop 142 = .ok (.iload_n 1, 1) := by decide +kernel
theorem dX12_putTop_143 : decode cX12_putTop 143 = .ok (.iastore, 1) := by decide +kernel
theorem dX12_putTop_144 : decode cX12_putTop 144 = .ok (.aload_n 0, 1) := by decide +kernel
theorem dX12_putTop_145 : decode cX12_putTop 145 = .ok (.getfield 46, 3) := by decide +kernel
theorem dX12_putTop_148 : decode cX12_putTop 148 = .ok (.iload_n 2, 1) := by decide +kernel
theorem dX12_putTop_149 : decode cX12_putTop 149 = .ok (.dup2, 1) := by decide +kernel
theorem dX12_putTop_150 : decode cX12_putTop 150 = .ok (.iaload, 1) := by decide +kernel
theorem dX12_putTop_151 : decode cX12_putTop 151 = .ok (.iconst 1, 1) := by decide +kernel
theorem dX12_putTop_152 : decode cX12_putTop 152 = .ok (.iadd, 1) := by decide +kernel
theorem dX12_putTop_153 : decode cX12_putTop 153 = .ok (.iastore, 1) := by decide +kernel
theorem dX12_putTop_154 : decode cX12_putTop 154 = .ok (.aload_n 0, 1) := by decide +kernel
theorem dX12_putTop_155 : decode cX12_putTop 155 = .ok (.getfield 31, 3) := by decide +kernel
theorem dX12_putTop_158 : decode cX12_putTop 158 = .ok (.iload_n 1, 1) := by decide +kernel
theorem dX12_putTop_159 : decode cX12_putTop 159 = .ok (.iload_n 2, 1) := by decide +kernel
theorem dX12_putTop_160 : decode cX12_putTop 160 = .ok (.iastore, 1) := by decide +kernel
theorem dX12_putTop_161 : decode cX12_putTop 161 = .ok (.aload_n 0, 1) := by decide +kernel
theorem dX12_putTop_162 : decode cX12_putTop 162 = .ok (.iload_n 1, 1) := by decide +kernel
theorem dX12_putTop_163 : decode cX12_putTop 163 = .ok (.invokevirtual 503, 3) := by decide +kernel
theorem dX12_putTop_166 : decode cX12_putTop 166 = .ok (.aload_n 0, 1) := by decide +kernel
theorem dX12_putTop_167 : decode cX12_putTop 167 = .ok (.aload_n 0, 1) := by decide +kernel
theorem dX12_putTop_168 : decode cX12_putTop 168 = .ok (.iload_n 1, 1) := by decide +kernel
theorem dX12_putTop_169 : decode cX12_putTop 169 = .ok (.invokevirtual 251, 3) := by decide +kernel
theorem dX12_putTop_172 : decode cX12_putTop 172 = .ok (.iconst (-1), 1) := by decide +kernel
theorem dX12_putTop_173 : decode cX12_putTop 173 = .ok (.iload_n 2, 1) := by decide +kernel
theorem dX12_putTop_174 : decode cX12_putTop 174 = .ok (.invokevirtual 521, 3) := by decide +kernel
theorem dX12_putTop_177 : decode cX12_putTop 177 = .ok (.return_, 1) := by decide +kernel
theorem dX12_leave_0 : decode cX12_leave 0 = .ok (.aload_n 0, 1) := by decide +kernel
theorem dX12_leave_1 : decode cX12_leave 1 = .ok (.invokevirtual 453, 3) := by decide +kernel
theorem dX12_leave_4 : decode cX12_leave 4 = .ok (.istore_n 1, 1) := by decide +kernel
theorem dX12_leave_5 : decode cX12_leave 5 = .ok (.aload_n 0, 1) := by decide +kernel
theorem dX12_leave_6 : decode cX12_leave 6 = .ok (.dup, 1) := by decide +kernel
theorem dX12_leave_7 : decode cX12_leave 7 = .ok (.getfield 431, 3) := by decide +kernel
theorem dX12_leave_10 : decode cX12_leave 10 = .ok (.iload_n 1, 1) := by decide +kernel
theorem dX12_leave_11 : decode cX12_leave 11 = .ok (.iand, 1) := by decide +kernel
theorem dX12_leave_12 : decode cX12_leave 12 = .ok (.putfield 431, 3) := by decide +kernel
theorem dX12_leave_15 : decode cX12_leave 15 = .ok (.aload_n 0, 1) := by decide +kernel
theorem dX12_leave_16 : decode cX12_leave 16 = .ok (.dup, 1) := by decide +kernel
theorem dX12_leave_17 : decode cX12_leave 17 = .ok (.getfield 460, 3) := by decide +kernel
theorem dX12_leave_20 : decode cX12_leave 20 = .ok (.iload_n 1, 1) := by decide +kernel
theorem dX12_leave_21 : decode cX12_leave 21 = .ok (.iand, 1) := by decide +kernel
theorem dX12_leave_22 : decode cX12_leave 22 = .ok (.putfield 460, 3) := by decide +kernel
theorem dX12_leave_25 : decode cX12_leave 25 = .ok (.iconst 0, 1) := by decide +kernel
theorem dX12_leave_26 : decode cX12_leave 26 = .ok (.istore_n 2, 1) := by decide +kernel
theorem dX12_leave_27 : decode cX12_leave 27 = .ok (.iload_n 2, 1) := by decide +kernel
theorem dX12_leave_28 : decode cX12_leave 28 = .ok (.sipush 150, 3) := by decide +kernel
theorem dX12_leave_31 : decode cX12_leave 31 = .ok (.if_icmp .ge 36, 3) := by decide +kernel
theorem dX12_leave_34 : decode cX12_leave 34 = .ok (.aload_n 0, 1) := by decide +kernel
theorem dX12_leave_35 : decode cX12_leave 35 = .ok (.getfield 142, 3) := by decide +kernel
theorem dX12_leave_38 : decode cX12_leave 38 = .ok (.iload_n 2, 1) := by decide +kernel
theorem dX12_leave_39 : decode cX12_leave 39 = .ok (.aload_n 0, 1) := by decide +kernel
theorem dX12_leave_40 : decode cX12_leave 40 = .ok (.iload_n 1, 1) := by decide +kernel
theorem dX12_leave_41 : decode cX12_leave 41 = .ok (.iload_n 2, 1) := by decide +kernel
theorem dX12_leave_42 : decode cX12_leave 42 = .ok (.iconst 5, 1) := by decide +kernel
theorem dX12_leave_43 : decode cX12_leave 43 = .ok (.idiv, 1) := by decide +kernel
theorem dX12_leave_44 : decode cX12_leave 44 = .ok (.invokevirtual 288, 3) := by decide +kernel
theorem dX12_leave_47 : decode cX12_leave 47 = .ok (.ifCond .eq 12, 3) := by decide +kernel
theorem dX12_leave_50 : decode cX12_leave 50 = .ok (.aload_n 0, 1) := by decide +kernel
theorem dX12_leave_51 : decode cX12_leave 51 = .ok (.getfield 142, 3) := by decide +kernel
theorem dX12_leave_54 : decode cX12_leave 54 = .ok (.iload_n 2, 1) := by decide +kernel
theorem dX12_leave_55 : decode cX12_leave 55 = .ok (.iaload, 1) := by decide +kernel
theorem dX12_leave_56 : decode cX12_leave 56 = .ok (.goto 4, 3) := by decide +kernel
theorem dX12_leave_59 : decode cX12_leave 59 = .ok (.iconst (-1), 1) := by decide +kernel
theorem dX12_leave_60 : decode cX12_leave 60 = .ok (.iastore, 1) := by decide +kernel
theorem dX12_leave_61 : decode cX12_leave 61 = .ok (.iinc 2 1, 3) := by decide +kernel
theorem dX12_leave_64 : decode cX12_leave 64 = .ok (.goto (-37), 3) := by decide +kernel
theorem dX12_leave_67 : decode cX12_leave 67 = .ok (.return_, 1) := by decide +kernel
theorem dX12_take_0 : decode cX12_take 0 = .ok (.aload_n 0, 1) := by decide +kernel
theorem dX12_take_1 : decode cX12_take 1 = .ok (.aload_n 0, 1) := by decide +kernel
theorem dX12_take_2 : decode cX12_take 2 = .ok (.iload_n 1, 1) := by decide +kernel
theorem dX12_take_3 : decode cX12_take 3 = .ok (.invokevirtual 234, 3) := by decide +kernel
theorem dX12_take_6 : decode cX12_take 6 = .ok (.ifCond .ne 7, 3) := by decide +kernel
theorem dX12_take_9 : decode cX12_take 9 = .ok (.iconst 1, 1) := by decide +kernel
theorem dX12_take_10 : decode cX12_take 10 = .ok (.goto 20, 3) := by decide +kernel
theorem dX12_take_13 : decode cX12_take 13 = .ok (.iload_n 1, 1) := by decide +kernel
theorem dX12_take_14 : decode cX12_take 14 = .ok (.ifCond .eq 11, 3) := by decide +kernel
theorem dX12_take_17 : decode cX12_take 17 = .ok (.aload_n 0, 1) := by decide +kernel
theorem dX12_take_18 : decode cX12_take 18 = .ok (.iload_n 1, 1) := by decide +kernel
theorem dX12_take_19 : decode cX12_take 19 = .ok (.invokevirtual 515, 3) := by decide +kernel
theorem dX12_take_22 : decode cX12_take 22 = .ok (.ifCond .eq 7, 3) := by decide +kernel
theorem dX12_take_25 : decode cX12_take 25 = .ok (.iconst 2, 1) := by decide +kernel
theorem dX12_take_26 : decode cX12_take 26 = .ok (.goto 4, 3) := by decide +kernel
theorem dX12_take_29 : decode cX12_take 29 = .ok (.iconst 0, 1) := by decide +kernel
theorem dX12_take_30 : decode cX12_take 30 = .ok (.invokevirtual 512, 3) := by decide +kernel
theorem dX12_take_33 : decode cX12_take 33 = .ok (.ifCond .eq 5, 3) := by decide +kernel
theorem dX12_take_36 : decode cX12_take 36 = .ok (.iconst (-1), 1) := by decide +kernel
theorem dX12_take_37 : decode cX12_take 37 = .ok (.ireturn, 1) := by decide +kernel
theorem dX12_take_38 : decode cX12_take 38 = .ok (.aload_n 0, 1) := by decide +kernel
theorem dX12_take_39 : decode cX12_take 39 = .ok (.getfield 28, 3) := by decide +kernel
theorem dX12_take_42 : decode cX12_take 42 = .ok (.iload_n 1, 1) := by decide +kernel
theorem dX12_take_43 : decode cX12_take 43 = .ok (.iaload, 1) := by decide +kernel
theorem dX12_take_44 : decode cX12_take 44 = .ok (.istore_n 2, 1) := by decide +kernel
theorem dX12_take_45 : decode cX12_take 45 = .ok (.aload_n 0, 1) := by decide +kernel
theorem dX12_take_46 : decode cX12_take 46 = .ok (.getfield 31, 3) := by decide +kernel
theorem dX12_take_49 : decode cX12_take 49 = .ok (.iload_n 1, 1) := by decide +kernel
theorem dX12_take_50 : decode cX12_take 50 = .ok (.iaload, 1) := by decide +kernel
theorem dX12_take_51 : decode cX12_take 51 = .ok (.istore_n 3, 1) := by decide +kernel
theorem dX12_take_52 : decode cX12_take 52 = .ok (.aload_n 0, 1) := by decide +kernel
theorem dX12_take_53 : decode cX12_take 53 = .ok (.iload_n 1, 1) := by decide +kernel
theorem dX12_take_54 : decode cX12_take 54 = .ok (.invokevirtual 242, 3) := by decide +kernel
theorem dX12_take_57 : decode cX12_take 57 = .ok (.istore 4, 2) := by decide +kernel
theorem dX12_take_59 : decode cX12_take 59 = .ok (.aload_n 0, 1) := by decide +kernel
theorem dX12_take_60 : decode cX12_take 60 = .ok (.iload_n 1, 1) := by decide +kernel
theorem dX12_take_61 : decode cX12_take 61 = .ok (.invokevirtual 251, 3) := by decide +kernel
theorem dX12_take_64 : decode cX12_take 64 = .ok (.istore 5, 2) := by decide +kernel
theorem dX12_take_66 : decode cX12_take 66 = .ok (.aload_n 0, 1) := by decide +kernel
theorem dX12_take_67 : decode cX12_take 67 = .ok (.iload_n 1, 1) := by decide +kernel
theorem dX12_take_68 : decode cX12_take 68 = .ok (.invokevirtual 248, 3) := by decide +kernel
theorem dX12_take_71 : decode cX12_take 71 = .ok (.istore 6, 2) := by decide +kernel
theorem dX12_take_73 : decode cX12_take 73 = .ok (.iload_n 2, 1) := by decide +kernel
theorem dX12_take_74 : decode cX12_take 74 = .ok (.ifCond .lt 63, 3) := by decide +kernel
theorem dX12_take_77 : decode cX12_take 77 = .ok (.aload_n 0, 1) := by decide +kernel
theorem dX12_take_78 : decode cX12_take 78 = .ok (.getfield 40, 3) := by decide +kernel
theorem dX12_take_81 : decode cX12_take 81 = .ok (.iload_n 2, 1) := by decide +kernel
theorem dX12_take_82 : decode cX12_take 82 = .ok (.dup2, 1) := by decide +kernel
theorem dX12_take_83 : decode cX12_take 83 = .ok (.iaload, 1) := by decide +kernel
theorem dX12_take_84 : decode cX12_take 84 = .ok (.iconst 1, 1) := by decide +kernel
theorem dX12_take_85 : decode cX12_take 85 = .ok (.isub, 1) := by decide +kernel
theorem dX12_take_86 : decode cX12_take 86 = .ok (.iastore, 1) := by decide +kernel
theorem dX12_take_87 : decode cX12_take 87 = .ok (.iload 6, 2) := by decide +kernel
theorem dX12_take_89 : decode cX12_take 89 = .ok (.istore 7, 2) := by decide +kernel
theorem dX12_take_91 : decode cX12_take 91 = .ok (.iload 7, 2) := by decide +kernel
theorem dX12_take_93 : decode cX12_take 93 = .ok (.aload_n 0, 1) := by decide +kernel
theorem dX12_take_94 : decode cX12_take 94 = .ok (.getfield 40, 3) := by decide +kernel
theorem dX12_take_97 : decode cX12_take 97 = .ok (.iload_n 2, 1) := by decide +kernel
theorem dX12_take_98 : decode cX12_take 98 = .ok (.iaload, 1) := by decide +kernel
theorem dX12_take_99 : decode cX12_take 99 = .ok (.if_icmp .ge 35, 3) := by decide +kernel
theorem dX12_take_102 : decode cX12_take 102 = .ok (.aload_n 0, 1) := by decide +kernel
theorem dX12_take_103 : decode cX12_take 103 = .ok (.getfield 37, 3) := by decide +kernel
theorem dX12_take_106 : decode cX12_take 106 = .ok (.bipush 30, 2) := by decide +kernel
theorem dX12_take_108 : decode cX12_take 108 = .ok (.iload_n 2, 1) := by decide +kernel
theorem dX12_take_109 : decode cX12_take 109 = .ok (.imul, 1) := by decide +kernel
theorem dX12_take_110 : decode cX12_take 110 = .ok (.iload 7, 2) := by decide +kernel
theorem dX12_take_112 : decode cX12_take 112 = .ok (.iadd, 1) := by decide +kernel
theorem dX12_take_113 : decode cX12_take 113 = .ok (.aload_n 0, 1) := by decide +kernel
theorem dX12_take_114 : decode cX12_take 114 = .ok (.getfield 37, 3) := by decide +kernel
theorem dX12_take_117 : decode cX12_take 117 = .ok (.bipush 30, 2) := by decide +kernel
theorem dX12_take_119 : decode cX12_take 119 = .ok (.iload_n 2, 1) := by decide +kernel
theorem dX12_take_120 : decode cX12_take 120 = .ok (.imul, 1) := by decide +kernel
theorem dX12_take_121 : decode cX12_take 121 = .ok (.iload 7, 2) := by decide +kernel
theorem dX12_take_123 : decode cX12_take 123 = .ok (.iadd, 1) := by decide +kernel
theorem dX12_take_124 : decode cX12_take 124 = .ok (.iconst 1, 1) := by decide +kernel
theorem dX12_take_125 : decode cX12_take 125 = .ok (.iadd, 1) := by decide +kernel
theorem dX12_take_126 : decode cX12_take 126 = .ok (.iaload, 1) := by decide +kernel
theorem dX12_take_127 : decode cX12_take 127 = .ok (.iastore, 1) := by decide +kernel
theorem dX12_take_128 : decode cX12_take 128 = .ok (.iinc 7 1, 3) := by decide +kernel
theorem dX12_take_131 : decode cX12_take 131 = .ok (.goto (-40), 3) := by decide +kernel
theorem dX12_take_134 : decode cX12_take 134 = .ok (.goto 60, 3) := by decide +kernel
theorem dX12_take_137 : decode cX12_take 137 = .ok (.aload_n 0, 1) := by decide +kernel
theorem dX12_take_138 : decode cX12_take 138 = .ok (.getfield 46, 3) := by decide +kernel
theorem dX12_take_141 : decode cX12_take 141 = .ok (.iload_n 3, 1) := by decide +kernel
theorem dX12_take_142 : decode cX12_take 142 = .ok (.dup2, 1) := by decide +kernel
theorem dX12_take_143 : decode cX12_take 143 = .ok (.iaload, 1) := by decide +kernel
theorem dX12_take_144 : decode cX12_take 144 = .ok (.iconst 1, 1) := by decide +kernel
theorem dX12_take_145 : decode cX12_take 145 = .ok (.isub, 1) := by decide +kernel
theorem dX12_take_146 : decode cX12_take 146 = .ok (.iastore, 1) := by decide +kernel
theorem dX12_take_147 : decode cX12_take 147 = .ok (.iload 6, 2) := by decide +kernel
theorem dX12_take_149 : decode cX12_take 149 = .ok (.istore 7, 2) := by decide +kernel
theorem dX12_take_151 : decode cX12_take 151 = .ok (.iload 7, 2) := by decide +kernel
theorem dX12_take_153 : decode cX12_take 153 = .ok (.aload_n 0, 1) := by decide +kernel
theorem dX12_take_154 : decode cX12_take 154 = .ok (.getfield 46, 3) := by decide +kernel
theorem dX12_take_157 : decode cX12_take 157 = .ok (.iload_n 3, 1) := by decide +kernel
theorem dX12_take_158 : decode cX12_take 158 = .ok (.iaload, 1) := by decide +kernel
theorem dX12_take_159 : decode cX12_take 159 = .ok (.if_icmp .ge 35, 3) := by decide +kernel
theorem dX12_take_162 : decode cX12_take 162 = .ok (.aload_n 0, 1) := by decide +kernel
theorem dX12_take_163 : decode cX12_take 163 = .ok (.getfield 43, 3) := by decide +kernel
theorem dX12_take_166 : decode cX12_take 166 = .ok (.bipush 30, 2) := by decide +kernel
theorem dX12_take_168 : decode cX12_take 168 = .ok (.iload_n 3, 1) := by decide +kernel
theorem dX12_take_169 : decode cX12_take 169 = .ok (.imul, 1) := by decide +kernel
theorem dX12_take_170 : decode cX12_take 170 = .ok (.iload 7, 2) := by decide +kernel
theorem dX12_take_172 : decode cX12_take 172 = .ok (.iadd, 1) := by decide +kernel
theorem dX12_take_173 : decode cX12_take 173 = .ok (.aload_n 0, 1) := by decide +kernel
theorem dX12_take_174 : decode cX12_take 174 = .ok (.getfield 43, 3) := by decide +kernel
theorem dX12_take_177 : decode cX12_take 177 = .ok (.bipush 30, 2) := by decide +kernel
theorem dX12_take_179 : decode cX12_take 179 = .ok (.iload_n 3, 1) := by decide +kernel
theorem dX12_take_180 : decode cX12_take 180 = .ok (.imul, 1) := by decide +kernel
theorem dX12_take_181 : decode cX12_take 181 = .ok (.iload 7, 2) := by decide +kernel
theorem dX12_take_183 : decode cX12_take 183 = .ok (.iadd, 1) := by decide +kernel
theorem dX12_take_184 : decode cX12_take 184 = .ok (.iconst 1, 1) := by decide +kernel
theorem dX12_take_185 : decode cX12_take 185 = .ok (.iadd, 1) := by decide +kernel
theorem dX12_take_186 : decode cX12_take 186 = .ok (.iaload, 1) := by decide +kernel
theorem dX12_take_187 : decode cX12_take 187 = .ok (.iastore, 1) := by decide +kernel
theorem dX12_take_188 : decode cX12_take 188 = .ok (.iinc 7 1, 3) := by decide +kernel
theorem dX12_take_191 : decode cX12_take 191 = .ok (.goto (-40), 3) := by decide +kernel
theorem dX12_take_194 : decode cX12_take 194 = .ok (.aload_n 0, 1) := by decide +kernel
theorem dX12_take_195 : decode cX12_take 195 = .ok (.getfield 28, 3) := by decide +kernel
theorem dX12_take_198 : decode cX12_take 198 = .ok (.iload_n 1, 1) := by decide +kernel
theorem dX12_take_199 : decode cX12_take 199 = .ok (.iconst (-1), 1) := by decide +kernel
theorem dX12_take_200 : decode cX12_take 200 = .ok (.iastore, 1) := by decide +kernel
theorem dX12_take_201 : decode cX12_take 201 = .ok (.aload_n 0, 1) := by decide +kernel
theorem dX12_take_202 : decode cX12_take 202 = .ok (.getfield 31, 3) := by decide +kernel
theorem dX12_take_205 : decode cX12_take 205 = .ok (.iload_n 1, 1) := by decide +kernel
theorem dX12_take_206 : decode cX12_take 206 = .ok (.iconst (-1), 1) := by decide +kernel
theorem dX12_take_207 : decode cX12_take 207 = .ok (.iastore, 1) := by decide +kernel
theorem dX12_take_208 : decode cX12_take 208 = .ok (.aload_n 0, 1) := by decide +kernel
theorem dX12_take_209 : decode cX12_take 209 = .ok (.iload 5, 2) := by decide +kernel
theorem dX12_take_211 : decode cX12_take 211 = .ok (.iload_n 2, 1) := by decide +kernel
theorem dX12_take_212 : decode cX12_take 212 = .ok (.iload 4, 2) := by decide +kernel
theorem dX12_take_214 : decode cX12_take 214 = .ok (.invokevirtual 521, 3) := by decide +kernel
theorem dX12_take_217 : decode cX12_take 217 = .ok (.aload_n 0, 1) := by decide +kernel
theorem dX12_take_218 : decode cX12_take 218 = .ok (.invokevirtual 525, 3) := by decide +kernel
theorem dX12_take_221 : decode cX12_take 221 = .ok (.iload_n 2, 1) := by decide +kernel
theorem dX12_take_222 : decode cX12_take 222 = .ok (.ifCond .lt 7, 3) := by decide +kernel
theorem dX12_take_225 : decode cX12_take 225 = .ok (.iload_n 2, 1) := by decide +kernel
theorem dX12_take_226 : decode cX12_take 226 = .ok (.goto 7, 3) := by decide +kernel
theorem dX12_take_229 : decode cX12_take 229 = .ok (.bipush 100, 2) := by decide +kernel
theorem dX12_take_231 : decode cX12_take 231 = .ok (.iload_n 3, 1) := by decide +kernel
theorem dX12_take_232 : decode cX12_take 232 = .ok (.iadd, 1) := by decide +kernel
theorem dX12_take_233 : decode cX12_take 233 = .ok (.ireturn, 1) := by decide +kernel
theorem dX12_setClass_0 : decode cX12_setClass 0 = .ok (.aload_n 0, 1) := by decide +kernel
theorem dX12_setClass_1 : decode cX12_setClass 1 = .ok (.aload_n 0, 1) := by decide +kernel
theorem dX12_setClass_2 : decode cX12_setClass 2 = .ok (.iload_n 1, 1) := by decide +kernel
theorem dX12_setClass_3 : decode cX12_setClass 3 = .ok (.invokevirtual 234, 3) := by decide +kernel
theorem dX12_setClass_6 : decode cX12_setClass 6 = .ok (.ifCond .ne 7, 3) := by decide +kernel
theorem dX12_setClass_9 : decode cX12_setClass 9 = .ok (.iconst 1, 1) := by decide +kernel
theorem dX12_setClass_10 : decode cX12_setClass 10 = .ok (.goto 19, 3) := by decide +kernel
theorem dX12_setClass_13 : decode cX12_setClass 13 = .ok (.aload_n 0, 1) := by decide +kernel
theorem dX12_setClass_14 : decode cX12_setClass 14 = .ok (.iload_n 2, 1) := by decide +kernel
theorem dX12_setClass_15 : decode cX12_setClass 15 = .ok (.iconst 0, 1) := by decide +kernel
theorem dX12_setClass_16 : decode cX12_setClass 16 = .ok (.bipush 7, 2) := by decide +kernel
theorem dX12_setClass_18 : decode cX12_setClass 18 = .ok (.invokevirtual 230, 3) := by decide +kernel
theorem dX12_setClass_21 : decode cX12_setClass 21 = .ok (.ifCond .eq 7, 3) := by decide +kernel
theorem dX12_setClass_24 : decode cX12_setClass 24 = .ok (.iconst 0, 1) := by decide +kernel
theorem dX12_setClass_25 : decode cX12_setClass 25 = .ok (.goto 4, 3) := by decide +kernel
theorem dX12_setClass_28 : decode cX12_setClass 28 = .ok (.iconst 2, 1) := by decide +kernel
theorem dX12_setClass_29 : decode cX12_setClass 29 = .ok (.invokevirtual 512, 3) := by decide +kernel
theorem dX12_setClass_32 : decode cX12_setClass 32 = .ok (.ifCond .eq 5, 3) := by decide +kernel
theorem dX12_setClass_35 : decode cX12_setClass 35 = .ok (.iconst 0, 1) := by decide +kernel
theorem dX12_setClass_36 : decode cX12_setClass 36 = .ok (.ireturn, 1) := by decide +kernel
theorem dX12_setClass_37 : decode cX12_setClass 37 = .ok (.aload_n 0, 1) := by decide +kernel
theorem dX12_setClass_38 : decode cX12_setClass 38 = .ok (.aload_n 0, 1) := by decide +kernel
theorem dX12_setClass_39 : decode cX12_setClass 39 = .ok (.getfield 13, 3) := by decide +kernel
theorem dX12_setClass_42 : decode cX12_setClass 42 = .ok (.iload_n 1, 1) := by decide +kernel
theorem dX12_setClass_43 : decode cX12_setClass 43 = .ok (.iaload, 1) := by decide +kernel
theorem dX12_setClass_44 : decode cX12_setClass 44 = .ok (.iload_n 2, 1) := by decide +kernel
theorem dX12_setClass_45 : decode cX12_setClass 45 = .ok (.invokevirtual 288, 3) := by decide +kernel
theorem dX12_setClass_48 : decode cX12_setClass 48 = .ok (.istore 4, 2) := by decide +kernel
theorem dX12_setClass_50 : decode cX12_setClass 50 = .ok (.aload_n 0, 1) := by decide +kernel
theorem dX12_setClass_51 : decode cX12_setClass 51 = .ok (.getfield 13, 3) := by decide +kernel
theorem dX12_setClass_54 : decode cX12_setClass 54 = .ok (.iload_n 1, 1) := by decide +kernel
theorem dX12_setClass_55 : decode cX12_setClass 55 = .ok (.iload_n 3, 1) := by decide +kernel
theorem dX12_setClass_56 : decode cX12_setClass 56 = .ok (.ifCond .eq 16, 3) := by decide +kernel
theorem dX12_setClass_59 : decode cX12_setClass 59 = .ok (.aload_n 0, 1) := by decide +kernel
theorem dX12_setClass_60 : decode cX12_setClass 60 = .ok (.getfield 13, 3) := by decide +kernel
theorem dX12_setClass_63 : decode cX12_setClass 63 = .ok (.iload_n 1, 1) := by decide +kernel
theorem dX12_setClass_64 : decode cX12_setClass 64 = .ok (.iaload, 1) := by decide +kernel
theorem dX12_setClass_65 : decode cX12_setClass 65 = .ok (.iconst 1, 1) := by decide +kernel
theorem dX12_setClass_66 : decode cX12_setClass 66 = .ok (.iload_n 2, 1) := by decide +kernel
theorem dX12_setClass_67 : decode cX12_setClass 67 = .ok (.ishl, 1) := by decide +kernel
theorem dX12_setClass_68 : decode cX12_setClass 68 = .ok (.ior, 1) := by decide +kernel
theorem dX12_setClass_69 : decode cX12_setClass 69 = .ok (.goto 15, 3) := by decide +kernel
theorem dX12_setClass_72 : decode cX12_setClass 72 = .ok (.aload_n 0, 1) := by decide +kernel
theorem dX12_setClass_73 : decode cX12_setClass 73 = .ok (.getfield 13, 3) := by decide +kernel
theorem dX12_setClass_76 : decode cX12_setClass 76 = .ok (.iload_n 1, 1) := by decide +kernel
theorem dX12_setClass_77 : decode cX12_setClass 77 = .ok (.iaload, 1) := by decide +kernel
theorem dX12_setClass_78 : decode cX12_setClass 78 = .ok (.iconst 1, 1) := by decide +kernel
theorem dX12_setClass_79 : decode cX12_setClass 79 = .ok (.iload_n 2, 1) := by decide +kernel
theorem dX12_setClass_80 : decode cX12_setClass 80 = .ok (.ishl, 1) := by decide +kernel
theorem dX12_setClass_81 : decode cX12_setClass 81 = .ok (.iconst (-1), 1) := by decide +kernel
theorem dX12_setClass_82 : decode cX12_setClass 82 = .ok (.ixor, 1) := by decide +kernel
theorem dX12_setClass_83 : decode cX12_setClass 83 = .ok (.iand, 1) := by decide +kernel
theorem dX12_setClass_84 : decode cX12_setClass 84 = .ok (.iastore, 1) := by decide +kernel
theorem dX12_setClass_85 : decode cX12_setClass 85 = .ok (.aload_n 0, 1) := by decide +kernel
theorem dX12_setClass_86 : decode cX12_setClass 86 = .ok (.iload_n 1, 1) := by decide +kernel
theorem dX12_setClass_87 : decode cX12_setClass 87 = .ok (.iconst 1, 1) := by decide +kernel
theorem dX12_setClass_88 : decode cX12_setClass 88 = .ok (.iload_n 2, 1) := by decide +kernel
theorem dX12_setClass_89 : decode cX12_setClass 89 = .ok (.ishl, 1) := by decide +kernel
theorem dX12_setClass_90 : decode cX12_setClass 90 = .ok (.invokevirtual 491, 3) := by decide +kernel
theorem dX12_setClass_93 : decode cX12_setClass 93 = .ok (.iload 4, 2) := by decide +kernel
theorem dX12_setClass_95 : decode cX12_setClass 95 = .ok (.ireturn, 1) := by decide +kernel
theorem dX12_setState_0 : decode cX12_setState 0 = .ok (.aload_n 0, 1) := by decide +kernel
theorem dX12_setState_1 : decode cX12_setState 1 = .ok (.aload_n 0, 1) := by decide +kernel
theorem dX12_setState_2 : decode cX12_setState 2 = .ok (.iload_n 1, 1) := by decide +kernel
theorem dX12_setState_3 : decode cX12_setState 3 = .ok (.invokevirtual 234, 3) := by decide +kernel
theorem dX12_setState_6 : decode cX12_setState 6 = .ok (.ifCond .ne 7, 3) := by decide +kernel
theorem dX12_setState_9 : decode cX12_setState 9 = .ok (.iconst 1, 1) := by decide +kernel
theorem dX12_setState_10 : decode cX12_setState 10 = .ok (.goto 18, 3) := by decide +kernel
theorem dX12_setState_13 : decode cX12_setState 13 = .ok (.aload_n 0, 1) := by decide +kernel
theorem dX12_setState_14 : decode cX12_setState 14 = .ok (.iload_n 2, 1) := by decide +kernel
theorem dX12_setState_15 : decode cX12_setState 15 = .ok (.iconst 0, 1) := by decide +kernel
theorem dX12_setState_16 : decode cX12_setState 16 = .ok (.iconst 3, 1) := by decide +kernel
theorem dX12_setState_17 : decode cX12_setState 17 = .ok (.invokevirtual 230, 3) := by decide +kernel
theorem dX12_setState_20 : decode cX12_setState 20 = .ok (.ifCond .eq 7, 3) := by decide +kernel
theorem dX12_setState_23 : decode cX12_setState 23 = .ok (.iconst 0, 1) := by decide +kernel
theorem dX12_setState_24 : decode cX12_setState 24 = .ok (.goto 4, 3) := by decide +kernel
theorem dX12_setState_27 : decode cX12_setState 27 = .ok (.iconst 2, 1) := by decide +kernel
theorem dX12_setState_28 : decode cX12_setState 28 = .ok (.invokevirtual 512, 3) := by decide +kernel
theorem dX12_setState_31 : decode cX12_setState 31 = .ok (.ifCond .eq 5, 3) := by decide +kernel
theorem dX12_setState_34 : decode cX12_setState 34 = .ok (.iconst 0, 1) := by decide +kernel
theorem dX12_setState_35 : decode cX12_setState 35 = .ok (.ireturn, 1) := by decide +kernel
theorem dX12_setState_36 : decode cX12_setState 36 = .ok (.aload_n 0, 1) := by decide +kernel
theorem dX12_setState_37 : decode cX12_setState 37 = .ok (.aload_n 0, 1) := by decide +kernel
theorem dX12_setState_38 : decode cX12_setState 38 = .ok (.getfield 16, 3) := by decide +kernel
theorem dX12_setState_41 : decode cX12_setState 41 = .ok (.iload_n 1, 1) := by decide +kernel
theorem dX12_setState_42 : decode cX12_setState 42 = .ok (.iaload, 1) := by decide +kernel
theorem dX12_setState_43 : decode cX12_setState 43 = .ok (.iload_n 2, 1) := by decide +kernel
theorem dX12_setState_44 : decode cX12_setState 44 = .ok (.invokevirtual 288, 3) := by decide +kernel
theorem dX12_setState_47 : decode cX12_setState 47 = .ok (.istore 4, 2) := by decide +kernel
theorem dX12_setState_49 : decode cX12_setState 49 = .ok (.aload_n 0, 1) := by decide +kernel
theorem dX12_setState_50 : decode cX12_setState 50 = .ok (.getfield 16, 3) := by decide +kernel
theorem dX12_setState_53 : decode cX12_setState 53 = .ok (.iload_n 1, 1) := by decide +kernel
theorem dX12_setState_54 : decode cX12_setState 54 = .ok (.iload_n 3, 1) := by decide +kernel
theorem dX12_setState_55 : decode cX12_setState 55 = .ok (.ifCond .eq 16, 3) := by decide +kernel
theorem dX12_setState_58 : decode cX12_setState 58 = .ok (.aload_n 0, 1) := by decide +kernel
theorem dX12_setState_59 : decode cX12_setState 59 = .ok (.getfield 16, 3) := by decide +kernel
theorem dX12_setState_62 : decode cX12_setState 62 = .ok (.iload_n 1, 1) := by decide +kernel
theorem dX12_setState_63 : decode cX12_setState 63 = .ok (.iaload, 1) := by decide +kernel
theorem dX12_setState_64 : decode cX12_setState 64 = .ok (.iconst 1, 1) := by decide +kernel
theorem dX12_setState_65 : decode cX12_setState 65 = .ok (.iload_n 2, 1) := by decide +kernel
theorem dX12_setState_66 : decode cX12_setState 66 = .ok (.ishl, 1) := by decide +kernel
theorem dX12_setState_67 : decode cX12_setState 67 = .ok (.ior, 1) := by decide +kernel
theorem dX12_setState_68 : decode cX12_setState 68 = .ok (.goto 15, 3) := by decide +kernel
theorem dX12_setState_71 : decode cX12_setState 71 = .ok (.aload_n 0, 1) := by decide +kernel
theorem dX12_setState_72 : decode cX12_setState 72 = .ok (.getfield 16, 3) := by decide +kernel
theorem dX12_setState_75 : decode cX12_setState 75 = .ok (.iload_n 1, 1) := by decide +kernel
theorem dX12_setState_76 : decode cX12_setState 76 = .ok (.iaload, 1) := by decide +kernel
theorem dX12_setState_77 : decode cX12_setState 77 = .ok (.iconst 1, 1) := by decide +kernel
theorem dX12_setState_78 : decode cX12_setState 78 = .ok (.iload_n 2, 1) := by decide +kernel
theorem dX12_setState_79 : decode cX12_setState 79 = .ok (.ishl, 1) := by decide +kernel
theorem dX12_setState_80 : decode cX12_setState 80 = .ok (.iconst (-1), 1) := by decide +kernel
theorem dX12_setState_81 : decode cX12_setState 81 = .ok (.ixor, 1) := by decide +kernel
theorem dX12_setState_82 : decode cX12_setState 82 = .ok (.iand, 1) := by decide +kernel
theorem dX12_setState_83 : decode cX12_setState 83 = .ok (.iastore, 1) := by decide +kernel
theorem dX12_setState_84 : decode cX12_setState 84 = .ok (.aload_n 0, 1) := by decide +kernel
theorem dX12_setState_85 : decode cX12_setState 85 = .ok (.iload_n 1, 1) := by decide +kernel
theorem dX12_setState_86 : decode cX12_setState 86 = .ok (.sipush 256, 3) := by decide +kernel
theorem dX12_setState_89 : decode cX12_setState 89 = .ok (.iload_n 2, 1) := by decide +kernel
theorem dX12_setState_90 : decode cX12_setState 90 = .ok (.ishl, 1) := by decide +kernel
theorem dX12_setState_91 : decode cX12_setState 91 = .ok (.invokevirtual 491, 3) := by decide +kernel
theorem dX12_setState_94 : decode cX12_setState 94 = .ok (.iload 4, 2) := by decide +kernel
theorem dX12_setState_96 : decode cX12_setState 96 = .ok (.ireturn, 1) := by decide +kernel
theorem dX12_setAttribute_0 : decode cX12_setAttribute 0 = .ok (.aload_n 0, 1) := by decide +kernel
theorem dX12_setAttribute_1 : decode cX12_setAttribute 1 = .ok (.aload_n 0, 1) := by decide +kernel
theorem dX12_setAttribute_2 : decode cX12_setAttribute 2 = .ok (.iload_n 1, 1) := by decide +kernel
theorem dX12_setAttribute_3 : decode cX12_setAttribute 3 = .ok (.invokevirtual 234, 3) := by decide +kernel
theorem dX12_setAttribute_6 : decode cX12_setAttribute 6 = .ok (.ifCond .ne 7, 3) := by decide +kernel
theorem dX12_setAttribute_9 : decode cX12_setAttribute 9 = .ok (.iconst 1, 1) := by decide +kernel
theorem dX12_setAttribute_10 : decode cX12_setAttribute 10 = .ok (.goto 29, 3) := by decide +kernel
theorem dX12_setAttribute_13 : decode cX12_setAttribute 13 = .ok (.aload_n 0, 1) := by decide +kernel
theorem dX12_setAttribute_14 : decode cX12_setAttribute 14 = .ok (.iload_n 2, 1) := by decide +kernel
theorem dX12_setAttribute_15 : decode cX12_setAttribute 15 = .ok (.iconst 0, 1) := by decide +kernel
theorem dX12_setAttribute_16 : decode cX12_setAttribute 16 = .ok (.iconst 1, 1) := by decide +kernel
theorem dX12_setAttribute_17 : decode cX12_setAttribute 17 = .ok (.invokevirtual 230, 3) := by decide +kernel
theorem dX12_setAttribute_20 : decode cX12_setAttribute 20 = .ok (.ifCond .eq 18, 3) := by decide +kernel
theorem dX12_setAttribute_23 : decode cX12_setAttribute 23 = .ok (.aload_n 0, 1) := by decide +kernel
theorem dX12_setAttribute_24 : decode cX12_setAttribute 24 = .ok (.iload_n 3, 1) := by decide +kernel
theorem dX12_setAttribute_25 : decode cX12_setAttribute 25 = .ok (.iconst (-1), 1) := by decide +kernel
theorem dX12_setAttribute_26 : decode cX12_setAttribute 26 = .ok (.bipush 9, 2) := by decide +kernel
theorem dX12_setAttribute_28 : decode cX12_setAttribute 28 = .ok (.invokevirtual 230, 3) := by decide +kernel
theorem dX12_setAttribute_31 : decode cX12_setAttribute 31 = .ok (.ifCond .eq 7, 3) := by decide +kernel
theorem dX12_setAttribute_34 : decode cX12_setAttribute 34 = .ok (.iconst 0, 1) := by decide +kernel
theorem dX12_setAttribute_35 : decode cX12_setAttribute 35 = .ok (.goto 4, 3) := by decide +kernel
theorem dX12_setAttribute_38 : decode cX12_setAttribute 38 = .ok (.iconst 2, 1) := by decide +kernel
theorem dX12_setAttribute_39 : decode cX12_setAttribute 39 = .ok (.invokevirtual 512, 3) := by decide +kernel
theorem dX12_setAttribute_42 : decode cX12_setAttribute 42 = .ok (.ifCond .eq 5, 3) := by decide +kernel
theorem dX12_setAttribute_45 : decode cX12_setAttribute 45 = .ok (.iconst (-1), 1) := by decide +kernel
theorem dX12_setAttribute_46 : decode cX12_setAttribute 46 = .ok (.ireturn, 1) := by decide +kernel
theorem dX12_setAttribute_47 : decode cX12_setAttribute 47 = .ok (.iload_n 2, 1) := by decide +kernel
theorem dX12_setAttribute_48 : decode cX12_setAttribute 48 = .ok (.ifCond .ne 12, 3) := by decide +kernel
theorem dX12_setAttribute_51 : decode cX12_setAttribute 51 = .ok (.aload_n 0, 1) := by decide +kernel
theorem dX12_setAttribute_52 : decode cX12_setAttribute 52 = .ok (.getfield 19, 3) := by decide +kernel
theorem dX12_setAttribute_55 : decode cX12_setAttribute 55 = .ok (.iload_n 1, 1) := by decide +kernel
theorem dX12_setAttribute_56 : decode cX12_setAttribute 56 = .ok (.iaload, 1) := by decide +kernel
theorem dX12_setAttribute_57 : decode cX12_setAttribute 57 = .ok (.goto 9, 3) := by decide +kernel
theorem dX12_setAttribute_60 : decode cX12_setAttribute 60 = .ok (.aload_n 0, 1) := by decide +kernel
theorem dX12_setAttribute_61 : decode cX12_setAttribute 61 = .ok (.getfield 22, 3) := by decide +kernel
theorem dX12_setAttribute_64 : decode cX12_setAttribute 64 = .ok (.iload_n 1, 1) := by decide +kernel
theorem dX12_setAttribute_65 : decode cX12_setAttribute 65 = .ok (.iaload, 1) := by decide +kernel
theorem dX12_setAttribute_66 : decode cX12_setAttribute 66 = .ok (.istore 4, 2) := by decide +kernel
theorem dX12_setAttribute_68 : decode cX12_setAttribute 68 = .ok (.iload_n 2, 1) := by decide +kernel
theorem dX12_setAttribute_69 : decode cX12_setAttribute 69 = .ok (.ifCond .ne 13, 3) := by decide +kernel
theorem dX12_setAttribute_72 : decode cX12_setAttribute 72 = .ok (.aload_n 0, 1) := by decide +kernel
theorem dX12_setAttribute_73 : decode cX12_setAttribute 73 = .ok (.getfield 19, 3) := by decide +kernel
theorem dX12_setAttribute_76 : decode cX12_setAttribute 76 = .ok (.iload_n 1, 1) := by decide +kernel
theorem dX12_setAttribute_77 : decode cX12_setAttribute 77 = .ok (.iload_n 3, 1) := by decide +kernel
theorem dX12_setAttribute_78 : decode cX12_setAttribute 78 = .ok (.iastore, 1) := by decide +kernel
theorem dX12_setAttribute_79 : decode cX12_setAttribute 79 = .ok (.goto 25, 3) := by decide +kernel
theorem dX12_setAttribute_82 : decode cX12_setAttribute 82 = .ok (.aload_n 0, 1) := by decide +kernel
theorem dX12_setAttribute_83 : decode cX12_setAttribute 83 = .ok (.getfield 22, 3) := by decide +kernel
theorem dX12_setAttribute_86 : decode cX12_setAttribute 86 = .ok (.iload_n 1, 1) := by decide +kernel
theorem dX12_setAttribute_87 : decode cX12_setAttribute 87 = .ok (.iload_n 3, 1) := by decide +kernel
theorem dX12_setAttribute_88 : decode cX12_setAttribute 88 = .ok (.iastore, 1) := by decide +kernel
theorem dX12_setAttribute_89 : decode cX12_setAttribute 89 = .ok (.aload_n 0, 1) := by decide +kernel
theorem dX12_setAttribute_90 : decode cX12_setAttribute 90 = .ok (.aload_n 0, 1) := by decide +kernel
theorem dX12_setAttribute_91 : decode cX12_setAttribute 91 = .ok (.getfield 28, 3) := by decide +kernel
theorem dX12_setAttribute_94 : decode cX12_setAttribute 94 = .ok (.iload_n 1, 1) := by decide +kernel
theorem dX12_setAttribute_95 : decode cX12_setAttribute 95 = .ok (.iaload, 1) := by decide +kernel
theorem dX12_setAttribute_96 : decode cX12_setAttribute 96 = .ok (.aload_n 0, 1) := by decide +kernel
theorem dX12_setAttribute_97 : decode cX12_setAttribute 97 = .ok (.iload_n 1, 1) := by decide +kernel
theorem dX12_setAttribute_98 : decode cX12_setAttribute 98 = .ok (.invokevirtual 242, 3) := by decide +kernel
theorem dX12_setAttribute_101 : decode cX12_setAttribute 101 = .ok (.invokevirtual 506, 3) := by decide +kernel
theorem dX12_setAttribute_104 : decode cX12_setAttribute 104 = .ok (.aload_n 0, 1) := by decide +kernel
theorem dX12_setAttribute_105 : decode cX12_setAttribute 105 = .ok (.iload_n 1, 1) := by decide +kernel
theorem dX12_setAttribute_106 : decode cX12_setAttribute 106 = .ok (.sipush 4096, 3) := by decide +kernel
theorem dX12_setAttribute_109 : decode cX12_setAttribute 109 = .ok (.iload_n 2, 1) := by decide +kernel
theorem dX12_setAttribute_110 : decode cX12_setAttribute 110 = .ok (.ishl, 1) := by decide +kernel
theorem dX12_setAttribute_111 : decode cX12_setAttribute 111 = .ok (.invokevirtual 491, 3) := by decide +kernel
theorem dX12_setAttribute_114 : decode cX12_setAttribute 114 = .ok (.iload 4, 2) := by decide +kernel
theorem dX12_setAttribute_116 : decode cX12_setAttribute 116 = .ok (.ireturn, 1) := by decide +kernel
theorem dX12_setPart_0 : decode cX12_setPart 0 = .ok (.aload_n 0, 1) := by decide +kernel
theorem dX12_setPart_1 : decode cX12_setPart 1 = .ok (.aload_n 0, 1) := by decide +kernel
theorem dX12_setPart_2 : decode cX12_setPart 2 = .ok (.iload_n 1, 1) := by decide +kernel
theorem dX12_setPart_3 : decode cX12_setPart 3 = .ok (.invokevirtual 234, 3) := by decide +kernel
theorem dX12_setPart_6 : decode cX12_setPart 6 = .ok (.ifCond .ne 7, 3) := by decide +kernel
theorem dX12_setPart_9 : decode cX12_setPart 9 = .ok (.iconst 1, 1) := by decide +kernel
theorem dX12_setPart_10 : decode cX12_setPart 10 = .ok (.goto 18, 3) := by decide +kernel
theorem dX12_setPart_13 : decode cX12_setPart 13 = .ok (.aload_n 0, 1) := by decide +kernel
theorem dX12_setPart_14 : decode cX12_setPart 14 = .ok (.iload_n 2, 1) := by decide +kernel
theorem dX12_setPart_15 : decode cX12_setPart 15 = .ok (.iconst (-1), 1) := by decide +kernel
theorem dX12_setPart_16 : decode cX12_setPart 16 = .ok (.iconst 3, 1) := by decide +kernel
theorem dX12_setPart_17 : decode cX12_setPart 17 = .ok (.invokevirtual 230, 3) := by decide +kernel
theorem dX12_setPart_20 : decode cX12_setPart 20 = .ok (.ifCond .eq 7, 3) := by decide +kernel
theorem dX12_setPart_23 : decode cX12_setPart 23 = .ok (.iconst 0, 1) := by decide +kernel
theorem dX12_setPart_24 : decode cX12_setPart 24 = .ok (.goto 4, 3) := by decide +kernel
theorem dX12_setPart_27 : decode cX12_setPart 27 = .ok (.iconst 2, 1) := by decide +kernel
theorem dX12_setPart_28 : decode cX12_setPart 28 = .ok (.invokevirtual 512, 3) := by decide +kernel
theorem dX12_setPart_31 : decode cX12_setPart 31 = .ok (.ifCond .eq 5, 3) := by decide +kernel
theorem dX12_setPart_34 : decode cX12_setPart 34 = .ok (.iconst (-1), 1) := by decide +kernel
theorem dX12_setPart_35 : decode cX12_setPart 35 = .ok (.ireturn, 1) := by decide +kernel
theorem dX12_setPart_36 : decode cX12_setPart 36 = .ok (.aload_n 0, 1) := by decide +kernel
theorem dX12_setPart_37 : decode cX12_setPart 37 = .ok (.getfield 25, 3) := by decide +kernel
theorem dX12_setPart_40 : decode cX12_setPart 40 = .ok (.iload_n 1, 1) := by decide +kernel
theorem dX12_setPart_41 : decode cX12_setPart 41 = .ok (.iaload, 1) := by decide +kernel
theorem dX12_setPart_42 : decode cX12_setPart 42 = .ok (.istore_n 3, 1) := by decide +kernel
theorem dX12_setPart_43 : decode cX12_setPart 43 = .ok (.aload_n 0, 1) := by decide +kernel
theorem dX12_setPart_44 : decode cX12_setPart 44 = .ok (.getfield 25, 3) := by decide +kernel
theorem dX12_setPart_47 : decode cX12_setPart 47 = .ok (.iload_n 1, 1) := by decide +kernel
theorem dX12_setPart_48 : decode cX12_setPart 48 = .ok (.iload_n 2, 1) := by decide +kernel
theorem dX12_setPart_49 : decode cX12_setPart 49 = .ok (.iastore, 1) := by decide +kernel
theorem dX12_setPart_50 : decode cX12_setPart 50 = .ok (.aload_n 0, 1) := by decide +kernel
theorem dX12_setPart_51 : decode cX12_setPart 51 = .ok (.iconst 1, 1) := by decide +kernel
theorem dX12_setPart_52 : decode cX12_setPart 52 = .ok (.iload_n 1, 1) := by decide +kernel
theorem dX12_setPart_53 : decode cX12_setPart 53 = .ok (.ishl, 1) := by decide +kernel
theorem dX12_setPart_54 : decode cX12_setPart 54 = .ok (.invokevirtual 497, 3) := by decide +kernel
theorem dX12_setPart_57 : decode cX12_setPart 57 = .ok (.iload_n 3, 1) := by decide +kernel
theorem dX12_setPart_58 : decode cX12_setPart 58 = .ok (.ireturn, 1) := by decide +kernel
theorem dX12_shownParent_0 : decode cX12_shownParent 0 = .ok (.aload_n 0, 1) := by decide +kernel
theorem dX12_shownParent_1 : decode cX12_shownParent 1 = .ok (.aload_n 0, 1) := by decide +kernel
theorem dX12_shownParent_2 : decode cX12_shownParent 2 = .ok (.iload_n 1, 1) := by decide +kernel
theorem dX12_shownParent_3 : decode cX12_shownParent 3 = .ok (.invokevirtual 234, 3) := by decide +kernel
theorem dX12_shownParent_6 : decode cX12_shownParent 6 = .ok (.ifCond .eq 7, 3) := by decide +kernel
theorem dX12_shownParent_9 : decode cX12_shownParent 9 = .ok (.iconst 0, 1) := by decide +kernel
theorem dX12_shownParent_10 : decode cX12_shownParent 10 = .ok (.goto 4, 3) := by decide +kernel
theorem dX12_shownParent_13 : decode cX12_shownParent 13 = .ok (.iconst 1, 1) := by decide +kernel
theorem dX12_shownParent_14 : decode cX12_shownParent 14 = .ok (.invokevirtual 512, 3) := by decide +kernel
theorem dX12_shownParent_17 : decode cX12_shownParent 17 = .ok (.ifCond .eq 7, 3) := by decide +kernel
theorem dX12_shownParent_20 : decode cX12_shownParent 20 = .ok (.iconst (-1), 1) := by decide +kernel
theorem dX12_shownParent_21 : decode cX12_shownParent 21 = .ok (.goto 8, 3) := by decide +kernel
theorem dX12_shownParent_24 : decode cX12_shownParent 24 = .ok (.aload_n 0, 1) := by decide +kernel
theorem dX12_shownParent_25 : decode cX12_shownParent 25 = .ok (.iload_n 1, 1) := by decide +kernel
theorem dX12_shownParent_26 : decode cX12_shownParent 26 = .ok (.invokevirtual 268, 3) := by decide +kernel
theorem dX12_shownParent_29 : decode cX12_shownParent 29 = .ok (.ireturn, 1) := by decide +kernel
theorem dX12_isIn_0 : decode cX12_isIn 0 = .ok (.aload_n 0, 1) := by decide +kernel
theorem dX12_isIn_1 : decode cX12_isIn 1 = .ok (.aload_n 0, 1) := by decide +kernel
theorem dX12_isIn_2 : decode cX12_isIn 2 = .ok (.iload_n 1, 1) := by decide +kernel
theorem dX12_isIn_3 : decode cX12_isIn 3 = .ok (.invokevirtual 234, 3) := by decide +kernel
theorem dX12_isIn_6 : decode cX12_isIn 6 = .ok (.ifCond .eq 7, 3) := by decide +kernel
theorem dX12_isIn_9 : decode cX12_isIn 9 = .ok (.iconst 0, 1) := by decide +kernel
theorem dX12_isIn_10 : decode cX12_isIn 10 = .ok (.goto 4, 3) := by decide +kernel
theorem dX12_isIn_13 : decode cX12_isIn 13 = .ok (.iconst 1, 1) := by decide +kernel
theorem dX12_isIn_14 : decode cX12_isIn 14 = .ok (.invokevirtual 512, 3) := by decide +kernel
theorem dX12_isIn_17 : decode cX12_isIn 17 = .ok (.ifCond .ne 15, 3) := by decide +kernel
theorem dX12_isIn_20 : decode cX12_isIn 20 = .ok (.aload_n 0, 1) := by decide +kernel
theorem dX12_isIn_21 : decode cX12_isIn 21 = .ok (.iload_n 1, 1) := by decide +kernel
theorem dX12_isIn_22 : decode cX12_isIn 22 = .ok (.invokevirtual 245, 3) := by decide +kernel
theorem dX12_isIn_25 : decode cX12_isIn 25 = .ok (.ifCond .eq 7, 3) := by decide +kernel
theorem dX12_isIn_28 : decode cX12_isIn 28 = .ok (.iconst 1, 1) := by decide +kernel
theorem dX12_isIn_29 : decode cX12_isIn 29 = .ok (.goto 4, 3) := by decide +kernel
theorem dX12_isIn_32 : decode cX12_isIn 32 = .ok (.iconst 0, 1) := by decide +kernel
theorem dX12_isIn_33 : decode cX12_isIn 33 = .ok (.ireturn, 1) := by decide +kernel
theorem dX12_test_0 : decode cX12_test 0 = .ok (.iload_n 1, 1) := by decide +kernel
theorem dX12_test_1 : decode cX12_test 1 = .ok (.iconst 5, 1) := by decide +kernel
theorem dX12_test_2 : decode cX12_test 2 = .ok (.if_icmp .eq 15, 3) := by decide +kernel
theorem dX12_test_5 : decode cX12_test 5 = .ok (.iload_n 1, 1) := by decide +kernel
theorem dX12_test_6 : decode cX12_test 6 = .ok (.bipush 6, 2) := by decide +kernel
theorem dX12_test_8 : decode cX12_test 8 = .ok (.if_icmp .eq 9, 3) := by decide +kernel
theorem dX12_test_11 : decode cX12_test 11 = .ok (.iload_n 1, 1) := by decide +kernel
theorem dX12_test_12 : decode cX12_test 12 = .ok (.bipush 7, 2) := by decide +kernel
theorem dX12_test_14 : decode cX12_test 14 = .ok (.if_icmp .ne 7, 3) := by decide +kernel
theorem dX12_test_17 : decode cX12_test 17 = .ok (.iconst 1, 1) := by decide +kernel
theorem dX12_test_18 : decode cX12_test 18 = .ok (.goto 4, 3) := by decide +kernel
theorem dX12_test_21 : decode cX12_test 21 = .ok (.iconst 0, 1) := by decide +kernel
theorem dX12_test_22 : decode cX12_test 22 = .ok (.istore 4, 2) := by decide +kernel
theorem dX12_test_24 : decode cX12_test 24 = .ok (.iload_n 1, 1) := by decide +kernel
theorem dX12_test_25 : decode cX12_test 25 = .ok (.bipush 7, 2) := by decide +kernel
theorem dX12_test_27 : decode cX12_test 27 = .ok (.if_icmp .ne 7, 3) := by decide +kernel
theorem dX12_test_30 : decode cX12_test 30 = .ok (.iload_n 3, 1) := by decide +kernel
theorem dX12_test_31 : decode cX12_test 31 = .ok (.goto 4, 3) := by decide +kernel
theorem dX12_test_34 : decode cX12_test 34 = .ok (.iload_n 2, 1) := by decide +kernel
theorem dX12_test_35 : decode cX12_test 35 = .ok (.istore 5, 2) := by decide +kernel
theorem dX12_test_37 : decode cX12_test 37 = .ok (.aload_n 0, 1) := by decide +kernel
theorem dX12_test_38 : decode cX12_test 38 = .ok (.iload_n 1, 1) := by decide +kernel
theorem dX12_test_39 : decode cX12_test 39 = .ok (.iconst 0, 1) := by decide +kernel
theorem dX12_test_40 : decode cX12_test 40 = .ok (.bipush 9, 2) := by decide +kernel
theorem dX12_test_42 : decode cX12_test 42 = .ok (.invokevirtual 230, 3) := by decide +kernel
theorem dX12_test_45 : decode cX12_test 45 = .ok (.ifCond .eq 70, 3) := by decide +kernel
theorem dX12_test_48 : decode cX12_test 48 = .ok (.iload_n 1, 1) := by decide +kernel
theorem dX12_test_49 : decode cX12_test 49 = .ok (.iconst 1, 1) := by decide +kernel
theorem dX12_test_50 : decode cX12_test 50 = .ok (.if_icmp .gt 14, 3) := by decide +kernel
theorem dX12_test_53 : decode cX12_test 53 = .ok (.aload_n 0, 1) := by decide +kernel
theorem dX12_test_54 : decode cX12_test 54 = .ok (.iload_n 2, 1) := by decide +kernel
theorem dX12_test_55 : decode cX12_test 55 = .ok (.iconst 0, 1) := by decide +kernel
theorem dX12_test_56 : decode cX12_test 56 = .ok (.bipush 7, 2) := by decide +kernel
theorem dX12_test_58 : decode cX12_test 58 = .ok (.invokevirtual 230, 3) := by decide +kernel
theorem dX12_test_61 : decode cX12_test 61 = .ok (.ifCond .eq 54, 3) := by decide +kernel
theorem dX12_test_64 : decode cX12_test 64 = .ok (.iload_n 1, 1) := by decide +kernel
theorem dX12_test_65 : decode cX12_test 65 = .ok (.iconst 2, 1) := by decide +kernel
theorem dX12_test_66 : decode cX12_test 66 = .ok (.if_icmp .eq 9, 3) := by decide +kernel
theorem dX12_test_69 : decode cX12_test 69 = .ok (.iload_n 1, 1) := by decide +kernel
theorem dX12_test_70 : decode cX12_test 70 = .ok (.bipush 9, 2) := by decide +kernel
theorem dX12_test_72 : decode cX12_test 72 = .ok (.if_icmp .ne 13, 3) := by decide +kernel
theorem dX12_test_75 : decode cX12_test 75 = .ok (.aload_n 0, 1) := by decide +kernel
theorem dX12_test_76 : decode cX12_test 76 = .ok (.iload_n 2, 1) := by decide +kernel
theorem dX12_test_77 : decode cX12_test 77 = .ok (.iconst 0, 1) := by decide +kernel
theorem dX12_test_78 : decode cX12_test 78 = .ok (.iconst 3, 1) := by decide +kernel
theorem dX12_test_79 : decode cX12_test 79 = .ok (.invokevirtual 230, 3) := by decide +kernel
theorem dX12_test_82 : decode cX12_test 82 = .ok (.ifCond .eq 33, 3) := by decide +kernel
theorem dX12_test_85 : decode cX12_test 85 = .ok (.iload_n 1, 1) := by decide +kernel
theorem dX12_test_86 : decode cX12_test 86 = .ok (.iconst 3, 1) := by decide +kernel
theorem dX12_test_87 : decode cX12_test 87 = .ok (.if_icmp .ne 24, 3) := by decide +kernel
theorem dX12_test_90 : decode cX12_test 90 = .ok (.aload_n 0, 1) := by decide +kernel
theorem dX12_test_91 : decode cX12_test 91 = .ok (.iload_n 2, 1) := by decide +kernel
theorem dX12_test_92 : decode cX12_test 92 = .ok (.iconst 0, 1) := by decide +kernel
theorem dX12_test_93 : decode cX12_test 93 = .ok (.iconst 1, 1) := by decide +kernel
theorem dX12_test_94 : decode cX12_test 94 = .ok (.invokevirtual 230, 3) := by decide +kernel
theorem dX12_test_97 : decode cX12_test 97 = .ok (.ifCond .eq 18, 3) := by decide +kernel
theorem dX12_test_100 : decode cX12_test 100 = .ok (.aload_n 0, 1) := by decide +kernel
theorem dX12_test_101 : decode cX12_test 101 = .ok (.iload_n 3, 1) := by decide +kernel
theorem dX12_test_102 : decode cX12_test 102 = .ok (.iconst 0, 1) := by decide +kernel
theorem dX12_test_103 : decode cX12_test 103 = .ok (.bipush 9, 2) := by decide +kernel
theorem dX12_test_105 : decode cX12_test 105 = .ok (.invokevirtual 230, 3) := by decide +kernel
theorem dX12_test_108 : decode cX12_test 108 = .ok (.ifCond .eq 7, 3) := by decide +kernel
theorem dX12_test_111 : decode cX12_test 111 = .ok (.iconst 1, 1) := by decide +kernel
theorem dX12_test_112 : decode cX12_test 112 = .ok (.goto 4, 3) := by decide +kernel
theorem dX12_test_115 : decode cX12_test 115 = .ok (.iconst 0, 1) := by decide +kernel
theorem dX12_test_116 : decode cX12_test 116 = .ok (.istore 6, 2) := by decide +kernel
theorem dX12_test_118 : decode cX12_test 118 = .ok (.iload 6, 2) := by decide +kernel
theorem dX12_test_120 : decode cX12_test 120 = .ok (.iload_n 1, 1) := by decide +kernel
theorem dX12_test_121 : decode cX12_test 121 = .ok (.iconst 4, 1) := by decide +kernel
theorem dX12_test_122 : decode cX12_test 122 = .ok (.if_icmp .ne 27, 3) := by decide +kernel
theorem dX12_test_125 : decode cX12_test 125 = .ok (.aload_n 0, 1) := by decide +kernel
theorem dX12_test_126 : decode cX12_test 126 = .ok (.iload_n 2, 1) := by decide +kernel
theorem dX12_test_127 : decode cX12_test 127 = .ok (.bipush (-9), 2) := by decide +kernel
theorem dX12_test_129 : decode cX12_test 129 = .ok (.bipush 9, 2) := by decide +kernel
theorem dX12_test_131 : decode cX12_test 131 = .ok (.invokevirtual 230, 3) := by decide +kernel
theorem dX12_test_134 : decode cX12_test 134 = .ok (.ifCond .eq 19, 3) := by decide +kernel
theorem dX12_test_137 : decode cX12_test 137 = .ok (.aload_n 0, 1) := by decide +kernel
theorem dX12_test_138 : decode cX12_test 138 = .ok (.iload_n 3, 1) := by decide +kernel
theorem dX12_test_139 : decode cX12_test 139 = .ok (.bipush (-9), 2) := by decide +kernel
theorem dX12_test_141 : decode cX12_test 141 = .ok (.bipush 9, 2) := by decide +kernel
theorem dX12_test_143 : decode cX12_test 143 = .ok (.invokevirtual 230, 3) := by decide +kernel
theorem dX12_test_146 : decode cX12_test 146 = .ok (.ifCond .eq 7, 3) := by decide +kernel
theorem dX12_test_149 : decode cX12_test 149 = .ok (.iconst 1, 1) := by decide +kernel
theorem dX12_test_150 : decode cX12_test 150 = .ok (.goto 4, 3) := by decide +kernel
theorem dX12_test_153 : decode cX12_test 153 = .ok (.iconst 0, 1) := by decide +kernel
theorem dX12_test_154 : decode cX12_test 154 = .ok (.iand, 1) := by decide +kernel
theorem dX12_test_155 : decode cX12_test 155 = .ok (.istore 6, 2) := by decide +kernel
theorem dX12_test_157 : decode cX12_test 157 = .ok (.iload 6, 2) := by decide +kernel
theorem dX12_test_159 : decode cX12_test 159 = .ok (.iload_n 1, 1) := by decide +kernel
theorem dX12_test_160 : decode cX12_test 160 = .ok (.bipush 7, 2) := by decide +kernel
theorem dX12_test_162 : decode cX12_test 162 = .ok (.if_icmp .ne 13, 3) := by decide +kernel
theorem dX12_test_165 : decode cX12_test 165 = .ok (.aload_n 0, 1) := by decide +kernel
theorem dX12_test_166 : decode cX12_test 166 = .ok (.iload_n 2, 1) := by decide +kernel
theorem dX12_test_167 : decode cX12_test 167 = .ok (.iconst 0, 1) := by decide +kernel
theorem dX12_test_168 : decode cX12_test 168 = .ok (.iconst 3, 1) := by decide +kernel
theorem dX12_test_169 : decode cX12_test 169 = .ok (.invokevirtual 230, 3) := by decide +kernel
theorem dX12_test_172 : decode cX12_test 172 = .ok (.ifCond .eq 7, 3) := by decide +kernel
theorem dX12_test_175 : decode cX12_test 175 = .ok (.iconst 1, 1) := by decide +kernel
theorem dX12_test_176 : decode cX12_test 176 = .ok (.goto 4, 3) := by decide +kernel
theorem dX12_test_179 : decode cX12_test 179 = .ok (.iconst 0, 1) := by decide +kernel
theorem dX12_test_180 : decode cX12_test 180 = .ok (.iand, 1) := by decide +kernel
theorem dX12_test_181 : decode cX12_test 181 = .ok (.istore 6, 2) := by decide +kernel
theorem dX12_test_183 : decode cX12_test 183 = .ok (.iload 4, 2) := by decide +kernel
theorem dX12_test_185 : decode cX12_test 185 = .ok (.ifCond .eq 19, 3) := by decide +kernel
theorem dX12_test_188 : decode cX12_test 188 = .ok (.aload_n 0, 1) := by decide +kernel
theorem dX12_test_189 : decode cX12_test 189 = .ok (.iload 5, 2) := by decide +kernel
theorem dX12_test_191 : decode cX12_test 191 = .ok (.iconst 0, 1) := by decide +kernel
theorem dX12_test_192 : decode cX12_test 192 = .ok (.aload_n 0, 1) := by decide +kernel
theorem dX12_test_193 : decode cX12_test 193 = .ok (.getfield 313, 3) := by decide +kernel
theorem dX12_test_196 : decode cX12_test 196 = .ok (.iconst 1, 1) := by decide +kernel
theorem dX12_test_197 : decode cX12_test 197 = .ok (.isub, 1) := by decide +kernel
theorem dX12_test_198 : decode cX12_test 198 = .ok (.invokevirtual 230, 3) := by decide +kernel
theorem dX12_test_201 : decode cX12_test 201 = .ok (.ifCond .eq 7, 3) := by decide +kernel
theorem dX12_test_204 : decode cX12_test 204 = .ok (.iconst 1, 1) := by decide +kernel
theorem dX12_test_205 : decode cX12_test 205 = .ok (.goto 4, 3) := by decide +kernel
theorem dX12_test_208 : decode cX12_test 208 = .ok (.iconst 0, 1) := by decide +kernel
theorem dX12_test_209 : decode cX12_test 209 = .ok (.istore 7, 2) := by decide +kernel
theorem dX12_test_211 : decode cX12_test 211 = .ok (.iload 6, 2) := by decide +kernel
theorem dX12_test_213 : decode cX12_test 213 = .ok (.ifCond .eq 38, 3) := by decide +kernel
theorem dX12_test_216 : decode cX12_test 216 = .ok (.iload 4, 2) := by decide +kernel
theorem dX12_test_218 : decode cX12_test 218 = .ok (.ifCond .eq 33, 3) := by decide +kernel
theorem dX12_test_221 : decode cX12_test 221 = .ok (.iload 7, 2) := by decide +kernel
theorem dX12_test_223 : decode cX12_test 223 = .ok (.ifCond .eq 28, 3) := by decide +kernel
theorem dX12_test_226 : decode cX12_test 226 = .ok (.aload_n 0, 1) := by decide +kernel
theorem dX12_test_227 : decode cX12_test 227 = .ok (.getfield 73, 3) := by decide +kernel
theorem dX12_test_230 : decode cX12_test 230 = .ok (.iload 5, 2) := by decide +kernel
theorem dX12_test_232 : decode cX12_test 232 = .ok (.iaload, 1) := by decide +kernel
theorem dX12_test_233 : decode cX12_test 233 = .ok (.iconst 1, 1) := by decide +kernel
theorem dX12_test_234 : decode cX12_test 234 = .ok (.if_icmp .eq 13, 3) := by decide +kernel
theorem dX12_test_237 : decode cX12_test 237 = .ok (.aload_n 0, 1) := by decide +kernel
theorem dX12_test_238 : decode cX12_test 238 = .ok (.getfield 70, 3) := by decide +kernel
theorem dX12_test_241 : decode cX12_test 241 = .ok (.iload 5, 2) := by decide +kernel
theorem dX12_test_243 : decode cX12_test 243 = .ok (.iaload, 1) := by decide +kernel
theorem dX12_test_244 : decode cX12_test 244 = .ok (.ifCond .lt 7, 3) := by decide +kernel
theorem dX12_test_247 : decode cX12_test 247 = .ok (.iconst 1, 1) := by decide +kernel
theorem dX12_test_248 : decode cX12_test 248 = .ok (.goto 4, 3) := by decide +kernel
theorem dX12_test_251 : decode cX12_test 251 = .ok (.iconst 0, 1) := by decide +kernel
theorem dX12_test_252 : decode cX12_test 252 = .ok (.istore 8, 2) := by decide +kernel
theorem dX12_test_254 : decode cX12_test 254 = .ok (.bipush 120, 2) := by decide +kernel
theorem dX12_test_256 : decode cX12_test 256 = .ok (.aload_n 0, 1) := by decide +kernel
theorem dX12_test_257 : decode cX12_test 257 = .ok (.getfield 49, 3) := by decide +kernel
theorem dX12_test_260 : decode cX12_test 260 = .ok (.bipush 30, 2) := by decide +kernel
theorem dX12_test_262 : decode cX12_test 262 = .ok (.iaload, 1) := by decide +kernel
theorem dX12_test_263 : decode cX12_test 263 = .ok (.iadd, 1) := by decide +kernel
theorem dX12_test_264 : decode cX12_test 264 = .ok (.iconst 1, 1) := by decide +kernel
theorem dX12_test_265 : decode cX12_test 265 = .ok (.isub, 1) := by decide +kernel
theorem dX12_test_266 : decode cX12_test 266 = .ok (.istore 9, 2) := by decide +kernel
theorem dX12_test_268 : decode cX12_test 268 = .ok (.aload_n 0, 1) := by decide +kernel
theorem dX12_test_269 : decode cX12_test 269 = .ok (.getfield 55, 3) := by decide +kernel
theorem dX12_test_272 : decode cX12_test 272 = .ok (.iload 9, 2) := by decide +kernel
theorem dX12_test_274 : decode cX12_test 274 = .ok (.iaload, 1) := by decide +kernel
theorem dX12_test_275 : decode cX12_test 275 = .ok (.iconst 4, 1) := by decide +kernel
theorem dX12_test_276 : decode cX12_test 276 = .ok (.if_icmp .eq 19, 3) := by decide +kernel
theorem dX12_test_279 : decode cX12_test 279 = .ok (.aload_n 0, 1) := by decide +kernel
theorem dX12_test_280 : decode cX12_test 280 = .ok (.getfield 70, 3) := by decide +kernel
theorem dX12_test_283 : decode cX12_test 283 = .ok (.bipush 30, 2) := by decide +kernel
theorem dX12_test_285 : decode cX12_test 285 = .ok (.iaload, 1) := by decide +kernel
theorem dX12_test_286 : decode cX12_test 286 = .ok (.ifCond .lt 13, 3) := by decide +kernel
theorem dX12_test_289 : decode cX12_test 289 = .ok (.iload_n 1, 1) := by decide +kernel
theorem dX12_test_290 : decode cX12_test 290 = .ok (.bipush 9, 2) := by decide +kernel
theorem dX12_test_292 : decode cX12_test 292 = .ok (.if_icmp .ne 7, 3) := by decide +kernel
theorem dX12_test_295 : decode cX12_test 295 = .ok (.iconst 1, 1) := by decide +kernel
theorem dX12_test_296 : decode cX12_test 296 = .ok (.goto 4, 3) := by decide +kernel
theorem dX12_test_299 : decode cX12_test 299 = .ok (.iconst 0, 1) := by decide +kernel
theorem dX12_test_300 : decode cX12_test 300 = .ok (.istore 10, 2) := by decide +kernel
theorem dX12_test_302 : decode cX12_test 302 = .ok (.aload_n 0, 1) := by decide +kernel
theorem dX12_test_303 : decode cX12_test 303 = .ok (.iload 6, 2) := by decide +kernel
theorem dX12_test_305 : decode cX12_test 305 = .ok (.ifCond .eq 8, 3) := by decide +kernel
theorem dX12_test_308 : decode cX12_test 308 = .ok (.iload 8, 2) := by decide +kernel
theorem dX12_test_310 : decode cX12_test 310 = .ok (.ifCond .eq 7, 3) := by decide +kernel
theorem dX12_test_313 : decode cX12_test 313 = .ok (.iconst 1, 1) := by decide +kernel
theorem dX12_test_314 : decode cX12_test 314 = .ok (.goto 22, 3) := by decide +kernel
theorem dX12_test_317 : decode cX12_test 317 = .ok (.iload 7, 2) := by decide +kernel
theorem dX12_test_319 : decode cX12_test 319 = .ok (.ifCond .ne 7, 3) := by decide +kernel
theorem dX12_test_322 : decode cX12_test 322 = .ok (.iconst 2, 1) := by decide +kernel
theorem dX12_test_323 : decode cX12_test 323 = .ok (.goto 13, 3) := by decide +kernel
theorem dX12_test_326 : decode cX12_test 326 = .ok (.iload 10, 2) := by decide +kernel
theorem dX12_test_328 : decode cX12_test 328 = .ok (.ifCond .eq 7, 3) := by decide +kernel
theorem dX12_test_331 : decode cX12_test 331 = .ok (.iconst 3, 1) := by decide +kernel
theorem dX12_test_332 : decode cX12_test 332 = .ok (.goto 4, 3) := by decide +kernel
theorem dX12_test_335 : decode cX12_test 335 = .ok (.iconst 0, 1) := by decide +kernel
theorem dX12_test_336 : decode cX12_test 336 = .ok (.invokevirtual 512, 3) := by decide +kernel
theorem dX12_test_339 : decode cX12_test 339 = .ok (.ifCond .eq 5, 3) := by decide +kernel
theorem dX12_test_342 : decode cX12_test 342 = .ok (.iconst (-1), 1) := by decide +kernel
theorem dX12_test_343 : decode cX12_test 343 = .ok (.ireturn, 1) := by decide +kernel
theorem dX12_test_344 : decode cX12_test 344 = .ok (.iconst 4, 1) := by decide +kernel
theorem dX12_test_345 : decode cX12_test 345 = .ok (.iload 9, 2) := by decide +kernel
theorem dX12_test_347 : decode cX12_test 347 = .ok (.imul, 1) := by decide +kernel
theorem dX12_test_348 : decode cX12_test 348 = .ok (.aload_n 0, 1) := by decide +kernel
theorem dX12_test_349 : decode cX12_test 349 = .ok (.getfield 55, 3) := by decide +kernel
theorem dX12_test_352 : decode cX12_test 352 = .ok (.iload 9, 2) := by decide +kernel
theorem dX12_test_354 : decode cX12_test 354 = .ok (.iaload, 1) := by decide +kernel
theorem dX12_test_355 : decode cX12_test 355 = .ok (.iadd, 1) := by decide +kernel
theorem dX12_test_356 : decode cX12_test 356 = .ok (.istore 11, 2) := by decide +kernel
theorem dX12_test_358 : decode cX12_test 358 = .ok (.aload_n 0, 1) := by decide +kernel
theorem dX12_test_359 : decode cX12_test 359 = .ok (.getfield 58, 3) := by decide +kernel
theorem dX12_test_362 : decode cX12_test 362 = .ok (.iload 11, 2) := by decide +kernel
theorem dX12_test_364 : decode cX12_test 364 = .ok (.iload_n 1, 1) := by decide +kernel
theorem dX12_test_365 : decode cX12_test 365 = .ok (.iastore, 1) := by decide +kernel
theorem dX12_test_366 : decode cX12_test 366 = .ok (.aload_n 0, 1) := by decide +kernel
theorem dX12_test_367 : decode cX12_test 367 = .ok (.getfield 61, 3) := by decide +kernel
theorem dX12_test_370 : decode cX12_test 370 = .ok (.iload 11, 2) := by decide +kernel
theorem dX12_test_372 : decode cX12_test 372 = .ok (.iload_n 2, 1) := by decide +kernel
theorem dX12_test_373 : decode cX12_test 373 = .ok (.iastore, 1) := by decide +kernel
theorem dX12_test_374 : decode cX12_test 374 = .ok (.aload_n 0, 1) := by decide +kernel
theorem dX12_test_375 : decode cX12_test 375 = .ok (.getfield 64, 3) := by decide +kernel
theorem dX12_test_378 : decode cX12_test 378 = .ok (.iload 11, 2) := by decide +kernel
theorem dX12_test_380 : decode cX12_test 380 = .ok (.iload_n 3, 1) := by decide +kernel
theorem dX12_test_381 : decode cX12_test 381 = .ok (.iastore, 1) := by decide +kernel
theorem dX12_test_382 : decode cX12_test 382 = .ok (.aload_n 0, 1) := by decide +kernel
theorem dX12_test_383 : decode cX12_test 383 = .ok (.getfield 70, 3) := by decide +kernel
theorem dX12_test_386 : decode cX12_test 386 = .ok (.bipush 30, 2) := by decide +kernel
theorem dX12_test_388 : decode cX12_test 388 = .ok (.iload_n 1, 1) := by decide +kernel
theorem dX12_test_389 : decode cX12_test 389 = .ok (.bipush 9, 2) := by decide +kernel
theorem dX12_test_391 : decode cX12_test 391 = .ok (.if_icmp .ne 7, 3) := by decide +kernel
theorem dX12_test_394 : decode cX12_test 394 = .ok (.iload_n 2, 1) := by decide +kernel
theorem dX12_test_395 : decode cX12_test 395 = .ok (.goto 10, 3) := by decide +kernel
theorem dX12_test_398 : decode cX12_test 398 = .ok (.aload_n 0, 1) := by decide +kernel
theorem dX12_test_399 : decode cX12_test 399 = .ok (.getfield 70, 3) := by decide +kernel
theorem dX12_test_402 : decode cX12_test 402 = .ok (.bipush 30, 2) := by decide +kernel
theorem dX12_test_404 : decode cX12_test 404 = .ok (.iaload, 1) := by decide +kernel
theorem dX12_test_405 : decode cX12_test 405 = .ok (.iastore, 1) := by decide +kernel
theorem dX12_test_406 : decode cX12_test 406 = .ok (.aload_n 0, 1) := by decide +kernel
theorem dX12_test_407 : decode cX12_test 407 = .ok (.getfield 73, 3) := by decide +kernel
theorem dX12_test_410 : decode cX12_test 410 = .ok (.bipush 30, 2) := by decide +kernel
theorem dX12_test_412 : decode cX12_test 412 = .ok (.iload_n 1, 1) := by decide +kernel
theorem dX12_test_413 : decode cX12_test 413 = .ok (.bipush 8, 2) := by decide +kernel
theorem dX12_test_415 : decode cX12_test 415 = .ok (.if_icmp .ne 7, 3) := by decide +kernel
theorem dX12_test_418 : decode cX12_test 418 = .ok (.iconst 1, 1) := by decide +kernel
theorem dX12_test_419 : decode cX12_test 419 = .ok (.goto 10, 3) := by decide +kernel
theorem dX12_test_422 : decode cX12_test 422 = .ok (.aload_n 0, 1) := by decide +kernel
theorem dX12_test_423 : decode cX12_test 423 = .ok (.getfield 73, 3) := by decide +kernel
theorem dX12_test_426 : decode cX12_test 426 = .ok (.bipush 30, 2) := by decide +kernel
theorem dX12_test_428 : decode cX12_test 428 = .ok (.iaload, 1) := by decide +kernel
theorem dX12_test_429 : decode cX12_test 429 = .ok (.iastore, 1) := by decide +kernel
theorem dX12_test_430 : decode cX12_test 430 = .ok (.aload_n 0, 1) := by decide +kernel
theorem dX12_test_431 : decode cX12_test 431 = .ok (.getfield 55, 3) := by decide +kernel
theorem dX12_test_434 : decode cX12_test 434 = .ok (.iload 9, 2) := by decide +kernel
theorem dX12_test_436 : decode cX12_test 436 = .ok (.dup2, 1) := by decide +kernel
theorem dX12_test_437 : decode cX12_test 437 = .ok (.iaload, 1) := by decide +kernel
theorem dX12_test_438 : decode cX12_test 438 = .ok (.iconst 1, 1) := by decide +kernel
theorem dX12_test_439 : decode cX12_test 439 = .ok (.iadd, 1) := by decide +kernel
theorem dX12_test_440 : decode cX12_test 440 = .ok (.iastore, 1) := by decide +kernel
theorem dX12_test_441 : decode cX12_test 441 = .ok (.aload_n 0, 1) := by decide +kernel
theorem dX12_test_442 : decode cX12_test 442 = .ok (.getfield 55, 3) := by decide +kernel
theorem dX12_test_445 : decode cX12_test 445 = .ok (.iload 9, 2) := by decide +kernel
theorem dX12_test_447 : decode cX12_test 447 = .ok (.iaload, 1) := by decide +kernel
theorem dX12_test_448 : decode cX12_test 448 = .ok (.ireturn, 1) := by decide +kernel
theorem dX12_join_0 : decode cX12_join 0 = .ok (.aload_n 0, 1) := by decide +kernel
theorem dX12_join_1 : decode cX12_join 1 = .ok (.aload_n 0, 1) := by decide +kernel
theorem dX12_join_2 : decode cX12_join 2 = .ok (.iload_n 1, 1) := by decide +kernel
theorem dX12_join_3 : decode cX12_join 3 = .ok (.iconst 0, 1) := by decide +kernel
theorem dX12_join_4 : decode cX12_join 4 = .ok (.iconst 3, 1) := by decide +kernel
theorem dX12_join_5 : decode cX12_join 5 = .ok (.invokevirtual 230, 3) := by decide +kernel
theorem dX12_join_8 : decode cX12_join 8 = .ok (.ifCond .ne 7, 3) := by decide +kernel
theorem dX12_join_11 : decode cX12_join 11 = .ok (.iconst 1, 1) := by decide +kernel
theorem dX12_join_12 : decode cX12_join 12 = .ok (.goto 29, 3) := by decide +kernel
theorem dX12_join_15 : decode cX12_join 15 = .ok (.aload_n 0, 1) := by decide +kernel
theorem dX12_join_16 : decode cX12_join 16 = .ok (.getfield 49, 3) := by decide +kernel
theorem dX12_join_19 : decode cX12_join 19 = .ok (.bipush 30, 2) := by decide +kernel
theorem dX12_join_21 : decode cX12_join 21 = .ok (.iaload, 1) := by decide +kernel
theorem dX12_join_22 : decode cX12_join 22 = .ok (.iconst 4, 1) := by decide +kernel
theorem dX12_join_23 : decode cX12_join 23 = .ok (.if_icmp .eq 13, 3) := by decide +kernel
theorem dX12_join_26 : decode cX12_join 26 = .ok (.aload_n 0, 1) := by decide +kernel
theorem dX12_join_27 : decode cX12_join 27 = .ok (.getfield 70, 3) := by decide +kernel
theorem dX12_join_30 : decode cX12_join 30 = .ok (.bipush 30, 2) := by decide +kernel
theorem dX12_join_32 : decode cX12_join 32 = .ok (.iaload, 1) := by decide +kernel
theorem dX12_join_33 : decode cX12_join 33 = .ok (.ifCond .lt 7, 3) := by decide +kernel
theorem dX12_join_36 : decode cX12_join 36 = .ok (.iconst 2, 1) := by decide +kernel
theorem dX12_join_37 : decode cX12_join 37 = .ok (.goto 4, 3) := by decide +kernel
theorem dX12_join_40 : decode cX12_join 40 = .ok (.iconst 0, 1) := by decide +kernel
theorem dX12_join_41 : decode cX12_join 41 = .ok (.invokevirtual 512, 3) := by decide +kernel
theorem dX12_join_44 : decode cX12_join 44 = .ok (.ifCond .eq 5, 3) := by decide +kernel
theorem dX12_join_47 : decode cX12_join 47 = .ok (.iconst (-1), 1) := by decide +kernel
theorem dX12_join_48 : decode cX12_join 48 = .ok (.ireturn, 1) := by decide +kernel
theorem dX12_join_49 : decode cX12_join 49 = .ok (.aload_n 0, 1) := by decide +kernel
theorem dX12_join_50 : decode cX12_join 50 = .ok (.getfield 52, 3) := by decide +kernel
theorem dX12_join_53 : decode cX12_join 53 = .ok (.bipush 120, 2) := by decide +kernel
theorem dX12_join_55 : decode cX12_join 55 = .ok (.aload_n 0, 1) := by decide +kernel
theorem dX12_join_56 : decode cX12_join 56 = .ok (.getfield 49, 3) := by decide +kernel
theorem dX12_join_59 : decode cX12_join 59 = .ok (.bipush 30, 2) := by decide +kernel
theorem dX12_join_61 : decode cX12_join 61 = .ok (.iaload, 1) := by decide +kernel
theorem dX12_join_62 : decode cX12_join 62 = .ok (.iadd, 1) := by decide +kernel
theorem dX12_join_63 : decode cX12_join 63 = .ok (.iload_n 1, 1) := by decide +kernel
theorem dX12_join_64 : decode cX12_join 64 = .ok (.iastore, 1) := by decide +kernel
theorem dX12_join_65 : decode cX12_join 65 = .ok (.aload_n 0, 1) := by decide +kernel
theorem dX12_join_66 : decode cX12_join 66 = .ok (.getfield 49, 3) := by decide +kernel
theorem dX12_join_69 : decode cX12_join 69 = .ok (.bipush 30, 2) := by decide +kernel
theorem dX12_join_71 : decode cX12_join 71 = .ok (.dup2, 1) := by decide +kernel
theorem dX12_join_72 : decode cX12_join 72 = .ok (.iaload, 1) := by decide +kernel
theorem dX12_join_73 : decode cX12_join 73 = .ok (.iconst 1, 1) := by decide +kernel
theorem dX12_join_74 : decode cX12_join 74 = .ok (.iadd, 1) := by decide +kernel
theorem dX12_join_75 : decode cX12_join 75 = .ok (.iastore, 1) := by decide +kernel
theorem dX12_join_76 : decode cX12_join 76 = .ok (.aload_n 0, 1) := by decide +kernel
theorem dX12_join_77 : decode cX12_join 77 = .ok (.getfield 49, 3) := by decide +kernel
theorem dX12_join_80 : decode cX12_join 80 = .ok (.bipush 30, 2) := by decide +kernel
theorem dX12_join_82 : decode cX12_join 82 = .ok (.iaload, 1) := by decide +kernel
theorem dX12_join_83 : decode cX12_join 83 = .ok (.ireturn, 1) := by decide +kernel
theorem dX12_select_0 : decode cX12_select 0 = .ok (.aload_n 0, 1) := by decide +kernel
theorem dX12_select_1 : decode cX12_select 1 = .ok (.aload_n 0, 1) := by decide +kernel
theorem dX12_select_2 : decode cX12_select 2 = .ok (.getfield 313, 3) := by decide +kernel
theorem dX12_select_5 : decode cX12_select 5 = .ok (.bipush 30, 2) := by decide +kernel
theorem dX12_select_7 : decode cX12_select 7 = .ok (.if_icmp .ne 7, 3) := by decide +kernel
theorem dX12_select_10 : decode cX12_select 10 = .ok (.iconst 1, 1) := by decide +kernel
theorem dX12_select_11 : decode cX12_select 11 = .ok (.goto 4, 3) := by decide +kernel
theorem dX12_select_14 : decode cX12_select 14 = .ok (.iconst 0, 1) := by decide +kernel
theorem dX12_select_15 : decode cX12_select 15 = .ok (.invokevirtual 512, 3) := by decide +kernel
theorem dX12_select_18 : decode cX12_select 18 = .ok (.ifCond .eq 5, 3) := by decide +kernel
theorem dX12_select_21 : decode cX12_select 21 = .ok (.iconst (-1), 1) := by decide +kernel
theorem dX12_select_22 : decode cX12_select 22 = .ok (.ireturn, 1) := by decide +kernel
theorem dX12_select_23 : decode cX12_select 23 = .ok (.aload_n 0, 1) := by decide +kernel
theorem dX12_select_24 : decode cX12_select 24 = .ok (.getfield 313, 3) := by decide +kernel
theorem dX12_select_27 : decode cX12_select 27 = .ok (.istore_n 1, 1) := by decide +kernel
theorem dX12_select_28 : decode cX12_select 28 = .ok (.aload_n 0, 1) := by decide +kernel
theorem dX12_select_29 : decode cX12_select 29 = .ok (.getfield 49, 3) := by decide +kernel
theorem dX12_select_32 : decode cX12_select 32 = .ok (.iload_n 1, 1) := by decide +kernel
theorem dX12_select_33 : decode cX12_select 33 = .ok (.aload_n 0, 1) := by decide +kernel
theorem dX12_select_34 : decode cX12_select 34 = .ok (.getfield 49, 3) := by decide +kernel
theorem dX12_select_37 : decode cX12_select 37 = .ok (.bipush 30, 2) := by decide +kernel
theorem dX12_select_39 : decode cX12_select 39 = .ok (.iaload, 1) := by decide +kernel
theorem dX12_select_40 : decode cX12_select 40 = .ok (.iastore, 1) := by decide +kernel
theorem dX12_select_41 : decode cX12_select 41 = .ok (.aload_n 0, 1) := by decide +kernel
theorem dX12_select_42 : decode cX12_select 42 = .ok (.getfield 70, 3) := by decide +kernel
theorem dX12_select_45 : decode cX12_select 45 = .ok (.iload_n 1, 1) := by decide +kernel
theorem dX12_select_46 : decode cX12_select 46 = .ok (.aload_n 0, 1) := by decide +kernel
theorem dX12_select_47 : decode cX12_select 47 = .ok (.getfield 70, 3) := by decide +kernel
theorem dX12_select_50 : decode cX12_select 50 = .ok (.bipush 30, 2) := by decide +kernel
theorem dX12_select_52 : decode cX12_select 52 = .ok (.iaload, 1) := by decide +kernel
theorem dX12_select_53 : decode cX12_select 53 = .ok (.iastore, 1) := by decide +kernel
theorem dX12_select_54 : decode cX12_select 54 = .ok (.aload_n 0, 1) := by decide +kernel
theorem dX12_select_55 : decode cX12_select 55 = .ok (.getfield 73, 3) := by decide +kernel
theorem dX12_select_58 : decode cX12_select 58 = .ok (.iload_n 1, 1) := by decide +kernel
theorem dX12_select_59 : decode cX12_select 59 = .ok (.aload_n 0, 1) := by decide +kernel
theorem dX12_select_60 : decode cX12_select 60 = .ok (.getfield 73, 3) := by decide +kernel
theorem dX12_select_63 : decode cX12_select 63 = .ok (.bipush 30, 2) := by decide +kernel
theorem dX12_select_65 : decode cX12_select 65 = .ok (.iaload, 1) := by decide +kernel
theorem dX12_select_66 : decode cX12_select 66 = .ok (.iastore, 1) := by decide +kernel
theorem dX12_select_67 : decode cX12_select 67 = .ok (.aload_n 0, 1) := by decide +kernel
theorem dX12_select_68 : decode cX12_select 68 = .ok (.getfield 67, 3) := by decide +kernel
theorem dX12_select_71 : decode cX12_select 71 = .ok (.iload_n 1, 1) := by decide +kernel
theorem dX12_select_72 : decode cX12_select 72 = .ok (.iconst 0, 1) := by decide +kernel
theorem dX12_select_73 : decode cX12_select 73 = .ok (.iastore, 1) := by decide +kernel
theorem dX12_select_74 : decode cX12_select 74 = .ok (.iconst 0, 1) := by decide +kernel
theorem dX12_select_75 : decode cX12_select 75 = .ok (.istore_n 2, 1) := by decide +kernel
theorem dX12_select_76 : decode cX12_select 76 = .ok (.iload_n 2, 1) := by decide +kernel
theorem dX12_select_77 : decode cX12_select 77 = .ok (.iconst 4, 1) := by decide +kernel
theorem dX12_select_78 : decode cX12_select 78 = .ok (.if_icmp .ge 47, 3) := by decide +kernel
theorem dX12_select_81 : decode cX12_select 81 = .ok (.aload_n 0, 1) := by decide +kernel
theorem dX12_select_82 : decode cX12_select 82 = .ok (.getfield 52, 3) := by decide +kernel
theorem dX12_select_85 : decode cX12_select 85 = .ok (.iconst 4, 1) := by decide +kernel
theorem dX12_select_86 : decode cX12_select 86 = .ok (.iload_n 1, 1) := by decide +kernel
theorem dX12_select_87 : decode cX12_select 87 = .ok (.imul, 1) := by decide +kernel
theorem dX12_select_88 : decode cX12_select 88 = .ok (.iload_n 2, 1) := by decide +kernel
theorem dX12_select_89 : decode cX12_select 89 = .ok (.iadd, 1) := by decide +kernel
theorem dX12_select_90 : decode cX12_select 90 = .ok (.aload_n 0, 1) := by decide +kernel
theorem dX12_select_91 : decode cX12_select 91 = .ok (.getfield 52, 3) := by decide +kernel
theorem dX12_select_94 : decode cX12_select 94 = .ok (.bipush 120, 2) := by decide +kernel
theorem dX12_select_96 : decode cX12_select 96 = .ok (.iload_n 2, 1) := by decide +kernel
theorem dX12_select_97 : decode cX12_select 97 = .ok (.iadd, 1) := by decide +kernel
theorem dX12_select_98 : decode cX12_select 98 = .ok (.iaload, 1) := by decide +kernel
theorem dX12_select_99 : decode cX12_select 99 = .ok (.iastore, 1) := by decide +kernel
theorem dX12_select_100 : decode cX12_select 100 = .ok (.aload_n 0, 1) := by decide +kernel
theorem dX12_select_101 : decode cX12_select 101 = .ok (.getfield 55, 3) := by decide +kernel
theorem dX12_select_104 : decode cX12_select 104 = .ok (.iconst 4, 1) := by decide +kernel
theorem dX12_select_105 : decode cX12_select 105 = .ok (.iload_n 1, 1) := by decide +kernel
theorem dX12_select_106 : decode cX12_select 106 = .ok (.imul, 1) := by decide +kernel
theorem dX12_select_107 : decode cX12_select 107 = .ok (.iload_n 2, 1) := by decide +kernel
theorem dX12_select_108 : decode cX12_select 108 = .ok (.iadd, 1) := by decide +kernel
theorem dX12_select_109 : decode cX12_select 109 = .ok (.aload_n 0, 1) := by decide +kernel
theorem dX12_select_110 : decode cX12_select 110 = .ok (.getfield 55, 3) := by decide +kernel
theorem dX12_select_113 : decode cX12_select 113 = .ok (.bipush 120, 2) := by decide +kernel
theorem dX12_select_115 : decode cX12_select 115 = .ok (.iload_n 2, 1) := by decide +kernel
theorem dX12_select_116 : decode cX12_select 116 = .ok (.iadd, 1) := by decide +kernel
theorem dX12_select_117 : decode cX12_select 117 = .ok (.iaload, 1) := by decide +kernel
theorem dX12_select_118 : decode cX12_select 118 = .ok (.iastore, 1) := by decide +kernel
theorem dX12_select_119 : decode cX12_select 119 = .ok (.iinc 2 1, 3) := by decide +kernel
theorem dX12_select_122 : decode cX12_select 122 = .ok (.goto (-46), 3) := by decide +kernel
theorem dX12_select_125 : decode cX12_select 125 = .ok (.iconst 0, 1) := by decide +kernel
theorem dX12_select_126 : decode cX12_select 126 = .ok (.istore_n 2, 1) := by decide +kernel
theorem dX12_select_127 : decode cX12_select 127 = .ok (.iload_n 2, 1) := by decide +kernel
theorem dX12_select_128 : decode cX12_select 128 = .ok (.bipush 16, 2) := by decide +kernel
theorem dX12_select_130 : decode cX12_select 130 = .ok (.if_icmp .ge 112, 3) := by decide +kernel
theorem dX12_select_133 : decode cX12_select 133 = .ok (.bipush 16, 2) := by decide +kernel
theorem dX12_select_135 : decode cX12_select 135 = .ok (.iload_n 1, 1) := by decide +kernel
theorem dX12_select_136 : decode cX12_select 136 = .ok (.imul, 1) := by decide +kernel
theorem dX12_select_137 : decode cX12_select 137 = .ok (.iload_n 2, 1) := by decide +kernel
theorem dX12_select_138 : decode cX12_select 138 = .ok (.iadd, 1) := by decide +kernel
theorem dX12_select_139 : decode cX12_select 139 = .ok (.istore_n 3, 1) := by decide +kernel
theorem dX12_select_140 : decode cX12_select 140 = .ok (.aload_n 0, 1) := by decide +kernel
theorem dX12_select_141 : decode cX12_select 141 = .ok (.getfield 58, 3) := by decide +kernel
theorem dX12_select_144 : decode cX12_select 144 = .ok (.iload_n 3, 1) := by decide +kernel
theorem dX12_select_145 : decode cX12_select 145 = .ok (.aload_n 0, 1) := by decide +kernel
theorem dX12_select_146 : decode cX12_select 146 = .ok (.getfield 58, 3) := by decide +kernel
theorem dX12_select_149 : decode cX12_select 149 = .ok (.sipush 480, 3) := by decide +kernel
theorem dX12_select_152 : decode cX12_select 152 = .ok (.iload_n 2, 1) := by decide +kernel
theorem dX12_select_153 : decode cX12_select 153 = .ok (.iadd, 1) := by decide +kernel
theorem dX12_select_154 : decode cX12_select 154 = .ok (.iaload, 1) := by decide +kernel
theorem dX12_select_155 : decode cX12_select 155 = .ok (.iastore, 1) := by decide +kernel
theorem dX12_select_156 : decode cX12_select 156 = .ok (.aload_n 0, 1) := by decide +kernel
theorem dX12_select_157 : decode cX12_select 157 = .ok (.getfield 61, 3) := by decide +kernel
theorem dX12_select_160 : decode cX12_select 160 = .ok (.iload_n 3, 1) := by decide +kernel
theorem dX12_select_161 : decode cX12_select 161 = .ok (.aload_n 0, 1) := by decide +kernel
theorem dX12_select_162 : decode cX12_select 162 = .ok (.getfield 61, 3) := by decide +kernel
theorem dX12_select_165 : decode cX12_select 165 = .ok (.sipush 480, 3) := by decide +kernel
theorem dX12_select_168 : decode cX12_select 168 = .ok (.iload_n 2, 1) := by decide +kernel
theorem dX12_select_169 : decode cX12_select 169 = .ok (.iadd, 1) := by decide +kernel
theorem dX12_select_170 : decode cX12_select 170 = .ok (.iaload, 1) := by decide +kernel
theorem dX12_select_171 : decode cX12_select 171 = .ok (.iastore, 1) := by decide +kernel
theorem dX12_select_172 : decode cX12_select 172 = .ok (.aload_n 0, 1) := by decide +kernel
theorem dX12_select_173 : decode cX12_select 173 = .ok (.getfield 64, 3) := by decide +kernel
theorem dX12_select_176 : decode cX12_select 176 = .ok (.iload_n 3, 1) := by decide +kernel
theorem dX12_select_177 : decode cX12_select 177 = .ok (.aload_n 0, 1) := by decide +kernel
theorem dX12_select_178 : decode cX12_select 178 = .ok (.getfield 64, 3) := by decide +kernel
theorem dX12_select_181 : decode cX12_select 181 = .ok (.sipush 480, 3) := by decide +kernel
theorem dX12_select_184 : decode cX12_select 184 = .ok (.iload_n 2, 1) := by decide +kernel
theorem dX12_select_185 : decode cX12_select 185 = .ok (.iadd, 1) := by decide +kernel
theorem dX12_select_186 : decode cX12_select 186 = .ok (.iaload, 1) := by decide +kernel
theorem dX12_select_187 : decode cX12_select 187 = .ok (.iastore, 1) := by decide +kernel
theorem dX12_select_188 : decode cX12_select 188 = .ok (.aload_n 0, 1) := by decide +kernel
theorem dX12_select_189 : decode cX12_select 189 = .ok (.getfield 67, 3) := by decide +kernel
theorem dX12_select_192 : decode cX12_select 192 = .ok (.iload_n 1, 1) := by decide +kernel
theorem dX12_select_193 : decode cX12_select 193 = .ok (.dup2, 1) := by decide +kernel
theorem dX12_select_194 : decode cX12_select 194 = .ok (.iaload, 1) := by decide +kernel
theorem dX12_select_195 : decode cX12_select 195 = .ok (.iload_n 2, 1) := by decide +kernel
theorem dX12_select_196 : decode cX12_select 196 = .ok (.iconst 4, 1) := by decide +kernel
theorem dX12_select_197 : decode cX12_select 197 = .ok (.idiv, 1) := by decide +kernel
theorem dX12_select_198 : decode cX12_select 198 = .ok (.aload_n 0, 1) := by decide +kernel
theorem dX12_select_199 : decode cX12_select 199 = .ok (.getfield 49, 3) := by decide +kernel
theorem dX12_select_202 : decode cX12_select 202 = .ok (.iload_n 1, 1) := by decide +kernel
theorem dX12_select_203 : decode cX12_select 203 = .ok (.iaload, 1) := by decide +kernel
theorem dX12_select_204 : decode cX12_select 204 = .ok (.if_icmp .ge 29, 3) := by decide +kernel
theorem dX12_select_207 : decode cX12_select 207 = .ok (.iload_n 2, 1) := by decide +kernel
theorem dX12_select_208 : decode cX12_select 208 = .ok (.iconst 4, 1) := by decide +kernel
theorem dX12_select_209 : decode cX12_select 209 = .ok (.irem, 1) := by decide +kernel
theorem dX12_select_210 : decode cX12_select 210 = .ok (.aload_n 0, 1) := by decide +kernel
theorem dX12_select_211 : decode cX12_select 211 = .ok (.getfield 55, 3) := by decide +kernel
theorem dX12_select_214 : decode cX12_select 214 = .ok (.iconst 4, 1) := by decide +kernel
theorem dX12_select_215 : decode cX12_select 215 = .ok (.iload_n 1, 1) := by decide +kernel
theorem dX12_select_216 : decode cX12_select 216 = .ok (.imul, 1) := by decide +kernel
theorem dX12_select_217 : decode cX12_select 217 = .ok (.iload_n 2, 1) := by decide +kernel
theorem dX12_select_218 : decode cX12_select 218 = .ok (.iconst 4, 1) := by decide +kernel
theorem dX12_select_219 : decode cX12_select 219 = .ok (.idiv, 1) := by decide +kernel
theorem dX12_select_220 : decode cX12_select 220 = .ok (.iadd, 1) := by decide +kernel
theorem dX12_select_221 : decode cX12_select 221 = .ok (.iaload, 1) := by decide +kernel
theorem dX12_select_222 : decode cX12_select 222 = .ok (.if_icmp .ge 11, 3) := by decide +kernel
theorem dX12_select_225 : decode cX12_select 225 = .ok (.aload_n 0, 1) := by decide +kernel
theorem dX12_select_226 : decode cX12_select 226 = .ok (.iload_n 3, 1) := by decide +kernel
theorem dX12_select_227 : decode cX12_select 227 = .ok (.invokevirtual 528, 3) := by decide +kernel
theorem dX12_select_230 : decode cX12_select 230 = .ok (.goto 4, 3) := by decide +kernel
theorem dX12_select_233 : decode cX12_select 233 = .ok (.iconst 0, 1) := by decide +kernel
theorem dX12_select_234 : decode cX12_select 234 = .ok (.iadd, 1) := by decide +kernel
theorem dX12_select_235 : decode cX12_select 235 = .ok (.iastore, 1) := by decide +kernel
theorem dX12_select_236 : decode cX12_select 236 = .ok (.iinc 2 1, 3) := by decide +kernel
theorem dX12_select_239 : decode cX12_select 239 = .ok (.goto (-112), 3) := by decide +kernel
theorem dX12_select_242 : decode cX12_select 242 = .ok (.aload_n 0, 1) := by decide +kernel
theorem dX12_select_243 : decode cX12_select 243 = .ok (.dup, 1) := by decide +kernel
theorem dX12_select_244 : decode cX12_select 244 = .ok (.getfield 313, 3) := by decide +kernel
theorem dX12_select_247 : decode cX12_select 247 = .ok (.iconst 1, 1) := by decide +kernel
theorem dX12_select_248 : decode cX12_select 248 = .ok (.iadd, 1) := by decide +kernel
theorem dX12_select_249 : decode cX12_select 249 = .ok (.putfield 313, 3) := by decide +kernel
theorem dX12_select_252 : decode cX12_select 252 = .ok (.aload_n 0, 1) := by decide +kernel
theorem dX12_select_253 : decode cX12_select 253 = .ok (.iload_n 1, 1) := by decide +kernel
theorem dX12_select_254 : decode cX12_select 254 = .ok (.invokevirtual 531, 3) := by decide +kernel
theorem dX12_select_257 : decode cX12_select 257 = .ok (.aload_n 0, 1) := by decide +kernel
theorem dX12_select_258 : decode cX12_select 258 = .ok (.invokevirtual 224, 3) := by decide +kernel
theorem dX12_select_261 : decode cX12_select 261 = .ok (.iload_n 1, 1) := by decide +kernel
theorem dX12_select_262 : decode cX12_select 262 = .ok (.ireturn, 1) := by decide +kernel
theorem dX12_isSel_0 : decode cX12_isSel 0 = .ok (.aload_n 0, 1) := by decide +kernel
theorem dX12_isSel_1 : decode cX12_isSel 1 = .ok (.iload_n 1, 1) := by decide +kernel
theorem dX12_isSel_2 : decode cX12_isSel 2 = .ok (.iconst 0, 1) := by decide +kernel
theorem dX12_isSel_3 : decode cX12_isSel 3 = .ok (.aload_n 0, 1) := by decide +kernel
theorem dX12_isSel_4 : decode cX12_isSel 4 = .ok (.getfield 313, 3) := by decide +kernel
theorem dX12_isSel_7 : decode cX12_isSel 7 = .ok (.iconst 1, 1) := by decide +kernel
theorem dX12_isSel_8 : decode cX12_isSel 8 = .ok (.isub, 1) := by decide +kernel
theorem dX12_isSel_9 : decode cX12_isSel 9 = .ok (.invokevirtual 230, 3) := by decide +kernel
theorem dX12_isSel_12 : decode cX12_isSel 12 = .ok (.ireturn, 1) := by decide +kernel
theorem dX12_weight_0 : decode cX12_weight 0 = .ok (.aload_n 0, 1) := by decide +kernel
theorem dX12_weight_1 : decode cX12_weight 1 = .ok (.aload_n 0, 1) := by decide +kernel
theorem dX12_weight_2 : decode cX12_weight 2 = .ok (.iload_n 1, 1) := by decide +kernel
theorem dX12_weight_3 : decode cX12_weight 3 = .ok (.invokevirtual 534, 3) := by decide +kernel
theorem dX12_weight_6 : decode cX12_weight 6 = .ok (.ifCond .eq 7, 3) := by decide +kernel
theorem dX12_weight_9 : decode cX12_weight 9 = .ok (.iconst 0, 1) := by decide +kernel
theorem dX12_weight_10 : decode cX12_weight 10 = .ok (.goto 4, 3) := by decide +kernel
theorem dX12_weight_13 : decode cX12_weight 13 = .ok (.iconst 1, 1) := by decide +kernel
theorem dX12_weight_14 : decode cX12_weight 14 = .ok (.invokevirtual 512, 3) := by decide +kernel
theorem dX12_weight_17 : decode cX12_weight 17 = .ok (.ifCond .eq 7, 3) := by decide +kernel
theorem dX12_weight_20 : decode cX12_weight 20 = .ok (.iconst (-1), 1) := by decide +kernel
theorem dX12_weight_21 : decode cX12_weight 21 = .ok (.goto 9, 3) := by decide +kernel
theorem dX12_weight_24 : decode cX12_weight 24 = .ok (.aload_n 0, 1) := by decide +kernel
theorem dX12_weight_25 : decode cX12_weight 25 = .ok (.getfield 67, 3) := by decide +kernel
theorem dX12_weight_28 : decode cX12_weight 28 = .ok (.iload_n 1, 1) := by decide +kernel
theorem dX12_weight_29 : decode cX12_weight 29 = .ok (.iaload, 1) := by decide +kernel
theorem dX12_weight_30 : decode cX12_weight 30 = .ok (.ireturn, 1) := by decide +kernel
theorem dX12_matches_0 : decode cX12_matches 0 = .ok (.aload_n 0, 1) := by decide +kernel
theorem dX12_matches_1 : decode cX12_matches 1 = .ok (.aload_n 0, 1) := by decide +kernel
theorem dX12_matches_2 : decode cX12_matches 2 = .ok (.iload_n 1, 1) := by decide +kernel
theorem dX12_matches_3 : decode cX12_matches 3 = .ok (.invokevirtual 234, 3) := by decide +kernel
theorem dX12_matches_6 : decode cX12_matches 6 = .ok (.ifCond .eq 23, 3) := by decide +kernel
theorem dX12_matches_9 : decode cX12_matches 9 = .ok (.aload_n 0, 1) := by decide +kernel
theorem dX12_matches_10 : decode cX12_matches 10 = .ok (.iload_n 2, 1) := by decide +kernel
theorem dX12_matches_11 : decode cX12_matches 11 = .ok (.invokevirtual 534, 3) := by decide +kernel
theorem dX12_matches_14 : decode cX12_matches 14 = .ok (.ifCond .eq 15, 3) := by decide +kernel
theorem dX12_matches_17 : decode cX12_matches 17 = .ok (.aload_n 0, 1) := by decide +kernel
theorem dX12_matches_18 : decode cX12_matches 18 = .ok (.iload_n 3, 1) := by decide +kernel
theorem dX12_matches_19 : decode cX12_matches 19 = .ok (.invokevirtual 537, 3) := by decide +kernel
theorem dX12_matches_22 : decode cX12_matches 22 = .ok (.ifCond .eq 7, 3) := by decide +kernel
theorem dX12_matches_25 : decode cX12_matches 25 = .ok (.iconst 0, 1) := by decide +kernel
theorem dX12_matches_26 : decode cX12_matches 26 = .ok (.goto 4, 3) := by decide +kernel
theorem dX12_matches_29 : decode cX12_matches 29 = .ok (.iconst 1, 1) := by decide +kernel
theorem dX12_matches_30 : decode cX12_matches 30 = .ok (.invokevirtual 512, 3) := by decide +kernel
theorem dX12_matches_33 : decode cX12_matches 33 = .ok (.ifCond .eq 5, 3) := by decide +kernel
theorem dX12_matches_36 : decode cX12_matches 36 = .ok (.iconst 0, 1) := by decide +kernel
theorem dX12_matches_37 : decode cX12_matches 37 = .ok (.ireturn, 1) := by decide +kernel
theorem dX12_matches_38 : decode cX12_matches 38 = .ok (.aload_n 0, 1) := by decide +kernel
theorem dX12_matches_39 : decode cX12_matches 39 = .ok (.iload_n 3, 1) := by decide +kernel
theorem dX12_matches_40 : decode cX12_matches 40 = .ok (.invokevirtual 322, 3) := by decide +kernel
theorem dX12_matches_43 : decode cX12_matches 43 = .ok (.aload_n 0, 1) := by decide +kernel
theorem dX12_matches_44 : decode cX12_matches 44 = .ok (.aload_n 0, 1) := by decide +kernel
theorem dX12_matches_45 : decode cX12_matches 45 = .ok (.getfield 187, 3) := by decide +kernel
theorem dX12_matches_48 : decode cX12_matches 48 = .ok (.iload_n 2, 1) := by decide +kernel
theorem dX12_matches_49 : decode cX12_matches 49 = .ok (.iaload, 1) := by decide +kernel
theorem dX12_matches_50 : decode cX12_matches 50 = .ok (.iload_n 1, 1) := by decide +kernel
theorem dX12_matches_51 : decode cX12_matches 51 = .ok (.invokevirtual 288, 3) := by decide +kernel
theorem dX12_matches_54 : decode cX12_matches 54 = .ok (.ireturn, 1) := by decide +kernel
theorem dX12_allThat_0 : decode cX12_allThat 0 = .ok (.aload_n 0, 1) := by decide +kernel
theorem dX12_allThat_1 : decode cX12_allThat 1 = .ok (.aload_n 0, 1) := by decide +kernel
theorem dX12_allThat_2 : decode cX12_allThat 2 = .ok (.iload_n 1, 1) := by decide +kernel
theorem dX12_allThat_3 : decode cX12_allThat 3 = .ok (.invokevirtual 534, 3) := by decide +kernel
theorem dX12_allThat_6 : decode cX12_allThat 6 = .ok (.ifCond .eq 15, 3) := by decide +kernel
theorem dX12_allThat_9 : decode cX12_allThat 9 = .ok (.aload_n 0, 1) := by decide +kernel
theorem dX12_allThat_10 : decode cX12_allThat 10 = .ok (.iload_n 2, 1) := by decide +kernel
theorem dX12_allThat_11 : decode cX12_allThat 11 = .ok (.invokevirtual 537, 3) := by decide +kernel
theorem dX12_allThat_14 : decode cX12_allThat 14 = .ok (.ifCond .eq 7, 3) := by decide +kernel
theorem dX12_allThat_17 : decode cX12_allThat 17 = .ok (.iconst 0, 1) := by decide +kernel
theorem dX12_allThat_18 : decode cX12_allThat 18 = .ok (.goto 4, 3) := by decide +kernel
theorem dX12_allThat_21 : decode cX12_allThat 21 = .ok (.iconst 1, 1) := by decide +kernel
theorem dX12_allThat_22 : decode cX12_allThat 22 = .ok (.invokevirtual 512, 3) := by decide +kernel
theorem dX12_allThat_25 : decode cX12_allThat 25 = .ok (.ifCond .eq 5, 3) := by decide +kernel
theorem dX12_allThat_28 : decode cX12_allThat 28 = .ok (.iconst (-1), 1) := by decide +kernel
theorem dX12_allThat_29 : decode cX12_allThat 29 = .ok (.ireturn, 1) := by decide +kernel
theorem dX12_allThat_30 : decode cX12_allThat 30 = .ok (.aload_n 0, 1) := by decide +kernel
theorem dX12_allThat_31 : decode cX12_allThat 31 = .ok (.iload_n 2, 1) := by decide +kernel
theorem dX12_allThat_32 : decode cX12_allThat 32 = .ok (.invokevirtual 322, 3) := by decide +kernel
theorem dX12_allThat_35 : decode cX12_allThat 35 = .ok (.aload_n 0, 1) := by decide +kernel
theorem dX12_allThat_36 : decode cX12_allThat 36 = .ok (.getfield 187, 3) := by decide +kernel
theorem dX12_allThat_39 : decode cX12_allThat 39 = .ok (.iload_n 1, 1) := by decide +kernel
theorem dX12_allThat_40 : decode cX12_allThat 40 = .ok (.iaload, 1) := by decide +kernel
theorem dX12_allThat_41 : decode cX12_allThat 41 = .ok (.ireturn, 1) := by decide +kernel
theorem dX12_sheet_0 : decode cX12_sheet 0 = .ok (.aload_n 0, 1) := by decide +kernel
theorem dX12_sheet_1 : decode cX12_sheet 1 = .ok (.aload_n 0, 1) := by decide +kernel
theorem dX12_sheet_2 : decode cX12_sheet 2 = .ok (.iload_n 1, 1) := by decide +kernel
theorem dX12_sheet_3 : decode cX12_sheet 3 = .ok (.iconst 0, 1) := by decide +kernel
theorem dX12_sheet_4 : decode cX12_sheet 4 = .ok (.iconst 2, 1) := by decide +kernel
theorem dX12_sheet_5 : decode cX12_sheet 5 = .ok (.invokevirtual 230, 3) := by decide +kernel
theorem dX12_sheet_8 : decode cX12_sheet 8 = .ok (.ifCond .eq 13, 3) := by decide +kernel
theorem dX12_sheet_11 : decode cX12_sheet 11 = .ok (.aload_n 0, 1) := by decide +kernel
theorem dX12_sheet_12 : decode cX12_sheet 12 = .ok (.iload_n 3, 1) := by decide +kernel
theorem dX12_sheet_13 : decode cX12_sheet 13 = .ok (.iconst (-1), 1) := by decide +kernel
theorem dX12_sheet_14 : decode cX12_sheet 14 = .ok (.iconst 3, 1) := by decide +kernel
theorem dX12_sheet_15 : decode cX12_sheet 15 = .ok (.invokevirtual 230, 3) := by decide +kernel
theorem dX12_sheet_18 : decode cX12_sheet 18 = .ok (.ifCond .ne 7, 3) := by decide +kernel
theorem dX12_sheet_21 : decode cX12_sheet 21 = .ok (.iconst 1, 1) := by decide +kernel
theorem dX12_sheet_22 : decode cX12_sheet 22 = .ok (.goto 29, 3) := by decide +kernel
theorem dX12_sheet_25 : decode cX12_sheet 25 = .ok (.aload_n 0, 1) := by decide +kernel
theorem dX12_sheet_26 : decode cX12_sheet 26 = .ok (.iload_n 2, 1) := by decide +kernel
theorem dX12_sheet_27 : decode cX12_sheet 27 = .ok (.invokevirtual 537, 3) := by decide +kernel
theorem dX12_sheet_30 : decode cX12_sheet 30 = .ok (.ifCond .ne 7, 3) := by decide +kernel
theorem dX12_sheet_33 : decode cX12_sheet 33 = .ok (.iconst 2, 1) := by decide +kernel
theorem dX12_sheet_34 : decode cX12_sheet 34 = .ok (.goto 17, 3) := by decide +kernel
theorem dX12_sheet_37 : decode cX12_sheet 37 = .ok (.aload_n 0, 1) := by decide +kernel
theorem dX12_sheet_38 : decode cX12_sheet 38 = .ok (.getfield 319, 3) := by decide +kernel
theorem dX12_sheet_41 : decode cX12_sheet 41 = .ok (.bipush 8, 2) := by decide +kernel
theorem dX12_sheet_43 : decode cX12_sheet 43 = .ok (.if_icmp .ne 7, 3) := by decide +kernel
theorem dX12_sheet_46 : decode cX12_sheet 46 = .ok (.iconst 3, 1) := by decide +kernel
theorem dX12_sheet_47 : decode cX12_sheet 47 = .ok (.goto 4, 3) := by decide +kernel
theorem dX12_sheet_50 : decode cX12_sheet 50 = .ok (.iconst 0, 1) := by decide +kernel
theorem dX12_sheet_51 : decode cX12_sheet 51 = .ok (.invokevirtual 512, 3) := by decide +kernel
theorem dX12_sheet_54 : decode cX12_sheet 54 = .ok (.ifCond .eq 5, 3) := by decide +kernel
theorem dX12_sheet_57 : decode cX12_sheet 57 = .ok (.iconst (-1), 1) := by decide +kernel
theorem dX12_sheet_58 : decode cX12_sheet 58 = .ok (.ireturn, 1) := by decide +kernel
theorem dX12_sheet_59 : decode cX12_sheet 59 = .ok (.aload_n 0, 1) := by decide +kernel
theorem dX12_sheet_60 : decode cX12_sheet 60 = .ok (.getfield 85, 3) := by decide +kernel
theorem dX12_sheet_63 : decode cX12_sheet 63 = .ok (.aload_n 0, 1) := by decide +kernel
theorem dX12_sheet_64 : decode cX12_sheet 64 = .ok (.getfield 319, 3) := by decide +kernel
theorem dX12_sheet_67 : decode cX12_sheet 67 = .ok (.iload_n 1, 1) := by decide +kernel
theorem dX12_sheet_68 : decode cX12_sheet 68 = .ok (.iastore, 1) := by decide +kernel
theorem dX12_sheet_69 : decode cX12_sheet 69 = .ok (.aload_n 0, 1) := by decide +kernel
theorem dX12_sheet_70 : decode cX12_sheet 70 = .ok (.getfield 88, 3) := by decide +kernel
theorem dX12_sheet_73 : decode cX12_sheet 73 = .ok (.aload_n 0, 1) := by decide +kernel
theorem dX12_sheet_74 : decode cX12_sheet 74 = .ok (.getfield 319, 3) := by decide +kernel
theorem dX12_sheet_77 : decode cX12_sheet 77 = .ok (.iload_n 2, 1) := by decide +kernel
theorem dX12_sheet_78 : decode cX12_sheet 78 = .ok (.iastore, 1) := by decide +kernel
theorem dX12_sheet_79 : decode cX12_sheet 79 = .ok (.aload_n 0, 1) := by decide +kernel
theorem dX12_sheet_80 : decode cX12_sheet 80 = .ok (.getfield 91, 3) := by decide +kernel
theorem dX12_sheet_83 : decode cX12_sheet 83 = .ok (.aload_n 0, 1) := by decide +kernel
theorem dX12_sheet_84 : decode cX12_sheet 84 = .ok (.getfield 319, 3) := by decide +kernel
theorem dX12_sheet_87 : decode cX12_sheet 87 = .ok (.iload_n 3, 1) := by decide +kernel
theorem dX12_sheet_88 : decode cX12_sheet 88 = .ok (.iastore, 1) := by decide +kernel
theorem dX12_sheet_89 : decode cX12_sheet 89 = .ok (.aload_n 0, 1) := by decide +kernel
theorem dX12_sheet_90 : decode cX12_sheet 90 = .ok (.getfield 94, 3) := by decide +kernel
theorem dX12_sheet_93 : decode cX12_sheet 93 = .ok (.aload_n 0, 1) := by decide +kernel
theorem dX12_sheet_94 : decode cX12_sheet 94 = .ok (.getfield 319, 3) := by decide +kernel
theorem dX12_sheet_97 : decode cX12_sheet 97 = .ok (.iconst 1, 1) := by decide +kernel
theorem dX12_sheet_98 : decode cX12_sheet 98 = .ok (.iastore, 1) := by decide +kernel
theorem dX12_sheet_99 : decode cX12_sheet 99 = .ok (.aload_n 0, 1) := by decide +kernel
theorem dX12_sheet_100 : decode cX12_sheet 100 = .ok (.dup, 1) := by decide +kernel
theorem dX12_sheet_101 : decode cX12_sheet 101 = .ok (.getfield 319, 3) := by decide +kernel
theorem dX12_sheet_104 : decode cX12_sheet 104 = .ok (.iconst 1, 1) := by decide +kernel
theorem dX12_sheet_105 : decode cX12_sheet 105 = .ok (.iadd, 1) := by decide +kernel
theorem dX12_sheet_106 : decode cX12_sheet 106 = .ok (.putfield 319, 3) := by decide +kernel
theorem dX12_sheet_109 : decode cX12_sheet 109 = .ok (.aload_n 0, 1) := by decide +kernel
theorem dX12_sheet_110 : decode cX12_sheet 110 = .ok (.invokevirtual 509, 3) := by decide +kernel
theorem dX12_sheet_113 : decode cX12_sheet 113 = .ok (.aload_n 0, 1) := by decide +kernel
theorem dX12_sheet_114 : decode cX12_sheet 114 = .ok (.getfield 319, 3) := by decide +kernel
theorem dX12_sheet_117 : decode cX12_sheet 117 = .ok (.iconst 1, 1) := by decide +kernel
theorem dX12_sheet_118 : decode cX12_sheet 118 = .ok (.isub, 1) := by decide +kernel
theorem dX12_sheet_119 : decode cX12_sheet 119 = .ok (.ireturn, 1) := by decide +kernel
theorem dX12_turn_0 : decode cX12_turn 0 = .ok (.aload_n 0, 1) := by decide +kernel
theorem dX12_turn_1 : decode cX12_turn 1 = .ok (.aload_n 0, 1) := by decide +kernel
theorem dX12_turn_2 : decode cX12_turn 2 = .ok (.iload_n 1, 1) := by decide +kernel
theorem dX12_turn_3 : decode cX12_turn 3 = .ok (.iconst 0, 1) := by decide +kernel
theorem dX12_turn_4 : decode cX12_turn 4 = .ok (.aload_n 0, 1) := by decide +kernel
theorem dX12_turn_5 : decode cX12_turn 5 = .ok (.getfield 319, 3) := by decide +kernel
theorem dX12_turn_8 : decode cX12_turn 8 = .ok (.iconst 1, 1) := by decide +kernel
theorem dX12_turn_9 : decode cX12_turn 9 = .ok (.isub, 1) := by decide +kernel
theorem dX12_turn_10 : decode cX12_turn 10 = .ok (.invokevirtual 230, 3) := by decide +kernel
theorem dX12_turn_13 : decode cX12_turn 13 = .ok (.ifCond .eq 7, 3) := by decide +kernel
theorem dX12_turn_16 : decode cX12_turn 16 = .ok (.iconst 0, 1) := by decide +kernel
theorem dX12_turn_17 : decode cX12_turn 17 = .ok (.goto 4, 3) := by decide +kernel
theorem dX12_turn_20 : decode cX12_turn 20 = .ok (.iconst 1, 1) := by decide +kernel
theorem dX12_turn_21 : decode cX12_turn 21 = .ok (.invokevirtual 512, 3) := by decide +kernel
theorem dX12_turn_24 : decode cX12_turn 24 = .ok (.ifCond .eq 5, 3) := by decide +kernel
theorem dX12_turn_27 : decode cX12_turn 27 = .ok (.iconst 0, 1) := by decide +kernel
theorem dX12_turn_28 : decode cX12_turn 28 = .ok (.ireturn, 1) := by decide +kernel
theorem dX12_turn_29 : decode cX12_turn 29 = .ok (.aload_n 0, 1) := by decide +kernel
theorem dX12_turn_30 : decode cX12_turn 30 = .ok (.getfield 94, 3) := by decide +kernel
theorem dX12_turn_33 : decode cX12_turn 33 = .ok (.iload_n 1, 1) := by decide +kernel
theorem dX12_turn_34 : decode cX12_turn 34 = .ok (.iaload, 1) := by decide +kernel
theorem dX12_turn_35 : decode cX12_turn 35 = .ok (.iconst 1, 1) := by decide +kernel
theorem dX12_turn_36 : decode cX12_turn 36 = .ok (.if_icmp .ne 7, 3) := by decide +kernel
theorem dX12_turn_39 : decode cX12_turn 39 = .ok (.iconst 1, 1) := by decide +kernel
theorem dX12_turn_40 : decode cX12_turn 40 = .ok (.goto 4, 3) := by decide +kernel
theorem dX12_turn_43 : decode cX12_turn 43 = .ok (.iconst 0, 1) := by decide +kernel
theorem dX12_turn_44 : decode cX12_turn 44 = .ok (.istore_n 3, 1) := by decide +kernel
theorem dX12_turn_45 : decode cX12_turn 45 = .ok (.aload_n 0, 1) := by decide +kernel
theorem dX12_turn_46 : decode cX12_turn 46 = .ok (.getfield 94, 3) := by decide +kernel
theorem dX12_turn_49 : decode cX12_turn 49 = .ok (.iload_n 1, 1) := by decide +kernel
theorem dX12_turn_50 : decode cX12_turn 50 = .ok (.iload_n 2, 1) := by decide +kernel
theorem dX12_turn_51 : decode cX12_turn 51 = .ok (.ifCond .eq 7, 3) := by decide +kernel
theorem dX12_turn_54 : decode cX12_turn 54 = .ok (.iconst 1, 1) := by decide +kernel
theorem dX12_turn_55 : decode cX12_turn 55 = .ok (.goto 4, 3) := by decide +kernel
theorem dX12_turn_58 : decode cX12_turn 58 = .ok (.iconst 0, 1) := by decide +kernel
theorem dX12_turn_59 : decode cX12_turn 59 = .ok (.iastore, 1) := by decide +kernel
theorem dX12_turn_60 : decode cX12_turn 60 = .ok (.aload_n 0, 1) := by decide +kernel
theorem dX12_turn_61 : decode cX12_turn 61 = .ok (.invokevirtual 509, 3) := by decide +kernel
theorem dX12_turn_64 : decode cX12_turn 64 = .ok (.iload_n 3, 1) := by decide +kernel
theorem dX12_turn_65 : decode cX12_turn 65 = .ok (.ireturn, 1) := by decide +kernel
theorem dX12_rule_0 : decode cX12_rule 0 = .ok (.aload_n 0, 1) := by decide +kernel
theorem dX12_rule_1 : decode cX12_rule 1 = .ok (.aload_n 0, 1) := by decide +kernel
theorem dX12_rule_2 : decode cX12_rule 2 = .ok (.iload_n 1, 1) := by decide +kernel
theorem dX12_rule_3 : decode cX12_rule 3 = .ok (.iconst 0, 1) := by decide +kernel
theorem dX12_rule_4 : decode cX12_rule 4 = .ok (.aload_n 0, 1) := by decide +kernel
theorem dX12_rule_5 : decode cX12_rule 5 = .ok (.getfield 319, 3) := by decide +kernel
theorem dX12_rule_8 : decode cX12_rule 8 = .ok (.iconst 1, 1) := by decide +kernel
theorem dX12_rule_9 : decode cX12_rule 9 = .ok (.isub, 1) := by decide +kernel
theorem dX12_rule_10 : decode cX12_rule 10 = .ok (.invokevirtual 230, 3) := by decide +kernel
theorem dX12_rule_13 : decode cX12_rule 13 = .ok (.ifCond .eq 11, 3) := by decide +kernel
theorem dX12_rule_16 : decode cX12_rule 16 = .ok (.aload_n 0, 1) := by decide +kernel
theorem dX12_rule_17 : decode cX12_rule 17 = .ok (.iload_n 2, 1) := by decide +kernel
theorem dX12_rule_18 : decode cX12_rule 18 = .ok (.invokevirtual 534, 3) := by decide +kernel
theorem dX12_rule_21 : decode cX12_rule 21 = .ok (.ifCond .ne 7, 3) := by decide +kernel
theorem dX12_rule_24 : decode cX12_rule 24 = .ok (.iconst 1, 1) := by decide +kernel
theorem dX12_rule_25 : decode cX12_rule 25 = .ok (.goto 17, 3) := by decide +kernel
theorem dX12_rule_28 : decode cX12_rule 28 = .ok (.aload_n 0, 1) := by decide +kernel
theorem dX12_rule_29 : decode cX12_rule 29 = .ok (.getfield 325, 3) := by decide +kernel
theorem dX12_rule_32 : decode cX12_rule 32 = .ok (.bipush 40, 2) := by decide +kernel
theorem dX12_rule_34 : decode cX12_rule 34 = .ok (.if_icmp .ne 7, 3) := by decide +kernel
theorem dX12_rule_37 : decode cX12_rule 37 = .ok (.iconst 2, 1) := by decide +kernel
theorem dX12_rule_38 : decode cX12_rule 38 = .ok (.goto 4, 3) := by decide +kernel
theorem dX12_rule_41 : decode cX12_rule 41 = .ok (.iconst 0, 1) := by decide +kernel
theorem dX12_rule_42 : decode cX12_rule 42 = .ok (.invokevirtual 512, 3) := by decide +kernel
theorem dX12_rule_45 : decode cX12_rule 45 = .ok (.ifCond .eq 5, 3) := by decide +kernel
theorem dX12_rule_48 : decode cX12_rule 48 = .ok (.iconst (-1), 1) := by decide +kernel
theorem dX12_rule_49 : decode cX12_rule 49 = .ok (.ireturn, 1) := by decide +kernel
theorem dX12_rule_50 : decode cX12_rule 50 = .ok (.aload_n 0, 1) := by decide +kernel
theorem dX12_rule_51 : decode cX12_rule 51 = .ok (.getfield 97, 3) := by decide +kernel
theorem dX12_rule_54 : decode cX12_rule 54 = .ok (.aload_n 0, 1) := by decide +kernel
theorem dX12_rule_55 : decode cX12_rule 55 = .ok (.getfield 325, 3) := by decide +kernel
theorem dX12_rule_58 : decode cX12_rule 58 = .ok (.iload_n 1, 1) := by decide +kernel
theorem dX12_rule_59 : decode cX12_rule 59 = .ok (.iastore, 1) := by decide +kernel
theorem dX12_rule_60 : decode cX12_rule 60 = .ok (.aload_n 0, 1) := by decide +kernel
theorem dX12_rule_61 : decode cX12_rule 61 = .ok (.getfield 100, 3) := by decide +kernel
theorem dX12_rule_64 : decode cX12_rule 64 = .ok (.aload_n 0, 1) := by decide +kernel
theorem dX12_rule_65 : decode cX12_rule 65 = .ok (.getfield 325, 3) := by decide +kernel
theorem dX12_rule_68 : decode cX12_rule 68 = .ok (.iload_n 2, 1) := by decide +kernel
theorem dX12_rule_69 : decode cX12_rule 69 = .ok (.iastore, 1) := by decide +kernel
theorem dX12_rule_70 : decode cX12_rule 70 = .ok (.aload_n 0, 1) := by decide +kernel
theorem dX12_rule_71 : decode cX12_rule 71 = .ok (.getfield 103, 3) := by decide +kernel
theorem dX12_rule_74 : decode cX12_rule 74 = .ok (.aload_n 0, 1) := by decide +kernel
theorem dX12_rule_75 : decode cX12_rule 75 = .ok (.getfield 325, 3) := by decide +kernel
theorem dX12_rule_78 : decode cX12_rule 78 = .ok (.iconst (-1), 1) := by decide +kernel
theorem dX12_rule_79 : decode cX12_rule 79 = .ok (.iastore, 1) := by decide +kernel
theorem dX12_rule_80 : decode cX12_rule 80 = .ok (.aload_n 0, 1) := by decide +kernel
theorem dX12_rule_81 : decode cX12_rule 81 = .ok (.dup, 1) := by decide +kernel
theorem dX12_rule_82 : decode cX12_rule 82 = .ok (.getfield 325, 3) := by decide +kernel
theorem dX12_rule_85 : decode cX12_rule 85 = .ok (.iconst 1, 1) := by decide +kernel
theorem dX12_rule_86 : decode cX12_rule 86 = .ok (.iadd, 1) := by decide +kernel
theorem dX12_rule_87 : decode cX12_rule 87 = .ok (.putfield 325, 3) := by decide +kernel
theorem dX12_rule_90 : decode cX12_rule 90 = .ok (.aload_n 0, 1) := by decide +kernel
theorem dX12_rule_91 : decode cX12_rule 91 = .ok (.invokevirtual 509, 3) := by decide +kernel
theorem dX12_rule_94 : decode cX12_rule 94 = .ok (.aload_n 0, 1) := by decide +kernel
theorem dX12_rule_95 : decode cX12_rule 95 = .ok (.getfield 325, 3) := by decide +kernel
theorem dX12_rule_98 : decode cX12_rule 98 = .ok (.iconst 1, 1) := by decide +kernel
theorem dX12_rule_99 : decode cX12_rule 99 = .ok (.isub, 1) := by decide +kernel
theorem dX12_rule_100 : decode cX12_rule 100 = .ok (.ireturn, 1) := by decide +kernel
-- markHosts(II)V
def f_markHosts_28   (σ : mS) : Option (mS) := some σ
def f_markHosts_19  (x2 : Int32) (σ : mS) : Option (mS) := if x2 < (0:Int32) then (f_markHosts_28 σ) else ((f_markBelow (x2) σ).bind (fun v1 => f_markHosts_28 v1))
def f_markHosts (x1 : Int32) (x2 : Int32) (σ : mS) : Option (mS) := if x1 < (0:Int32) then (f_markHosts_19 (x2) σ) else ((rd σ 8 x1).bind (fun v1 => if v1 = (1:Int32) then ((f_markBelow (x1) σ).bind (fun v2 => f_markHosts_19 (x2) v2)) else (f_markHosts_19 (x2) σ)))
set_option maxRecDepth 20000 in
set_option maxHeartbeats 4000000 in
theorem N_markHosts_28 {p : Program} {l : Launch} {e : Env} {s : State} {m : MethodId} {args : Array Value} {below : List Frame} {meth : Method} {c : Code} {D : mD} {mb : Nat}    {σ : mS} {H : Heap} {locs : List Loc} {ls : Array Slot} {q : mS} (X : mX p s m args meth c cX12_markHosts 3 none D) (hP : mP D mb σ H) (hF : mF mb s.heap H locs)  (hl : lv_has ls 3 [(0, .ref mb)]) (h : f_markHosts_28   σ = some q) : mWw p l e 7 158 s m args below meth c D mb q none H locs (F0 m 28 ls []) := by
  have hx := X.1
  have hb := X.2.1
  have hown := X.2.2.2.1
  have hts := X.2.2.2.2.1
  have h : (some σ) = some q := h
  obtain rfl := sj h
  exact m_wv X hP hF dX12_markHosts_28
set_option maxRecDepth 20000 in
set_option maxHeartbeats 4000000 in
theorem N_markHosts_19 {p : Program} {l : Launch} {e : Env} {s : State} {m : MethodId} {args : Array Value} {below : List Frame} {meth : Method} {c : Code} {D : mD} {mb : Nat}   {x2 : Int32} {σ : mS} {H : Heap} {locs : List Loc} {ls : Array Slot} {q : mS} (X : mX p s m args meth c cX12_markHosts 3 none D) (hP : mP D mb σ H) (hF : mF mb s.heap H locs)  (hl : lv_has ls 3 [(0, .ref mb), (2, .int x2)]) (h : f_markHosts_19  x2 σ = some q) : mWw p l e 7 158 s m args below meth c D mb q none H locs (F0 m 19 ls []) := by
  have hx := X.1
  have hb := X.2.1
  have hown := X.2.2.2.1
  have hts := X.2.2.2.2.1
  have h : (if x2 < (0:Int32) then (f_markHosts_28 σ) else ((f_markBelow (x2) σ).bind (fun v1 => f_markHosts_28 v1))) = some q := h
  refine lv_iload_n hx hb dX12_markHosts_19 rfl (lv_at hl 1 rfl) ?_
  refine lv_if_lt (tgt := 28) hx hb dX12_markHosts_20 rfl (fun hc => ?_) (fun hc => ?_)
  · have h := ip hc h
    exact N_markHosts_28 X hP hF (lv_sub hl [0] rfl) h
  · have h := ine hc h
    refine lv_aload_n hx hb dX12_markHosts_23 rfl (lv_at hl 0 rfl) ?_
    refine lv_iload_n hx hb dX12_markHosts_24 rfl (lv_at hl 1 rfl) ?_
    obtain ⟨v1, hv1, h⟩ := ob h
    refine cl_markBelow X hP hF hv1 ⟨Nat.le_of_ble_eq_true rfl, Nat.le_of_ble_eq_true rfl⟩ hl.1 (Nat.le_of_ble_eq_true rfl) dX12_markHosts_25 (fun H locs hP hF => ?_)
    exact N_markHosts_28 X hP hF (lv_sub hl [0] rfl) h
set_option maxRecDepth 20000 in
set_option maxHeartbeats 4000000 in
theorem K_markHosts (l : Launch) (D : mD) (mb : Nat) (σ : mS) (x1 : Int32) (x2 : Int32) {q : mS} (h : f_markHosts x1 x2 σ = some q) : Met l yX12_markHosts (Cond.code yX12_markHosts cX12_markHosts 3 none :: BG) (rM 7 158) (mPc D mb σ [.int x1, .int x2]) (mQw D mb q none) 0 0 (mReg mb) := by
  refine Met.ofW (cc := cX12_markHosts) (maxL := 3) (ret := none) (by decide) rfl ?_
  intro p e s m args below meth c s₁ B hml hv
  obtain ⟨rfl, hP, hK⟩ := hv
  have X := mX_of B hml rfl hK
  have hx := X.1
  have hb := X.2.1
  have hown := X.2.2.2.1
  have hts := X.2.2.2.2.1
  have hl := lv_entry (.ref mb :: [.int x1, .int x2]) (n := 3) (Nat.le_of_ble_eq_true rfl)
  rw [lg_entry_eq]
  generalize (lg_sl (.ref mb :: [.int x1, .int x2]) ++ List.replicate (3 - (lg_sl (.ref mb :: [.int x1, .int x2])).length) Slot.unset).toArray = ls at hl ⊢
  have hl : lv_has ls 3 [(0, .ref mb), (1, .int x1), (2, .int x2)] := hl
  have hF : mF mb s.heap s.heap [] := mF.rf
  show mWw p l e 7 158 s m (Value.ref mb :: [.int x1, .int x2]).toArray below meth c D mb q none s.heap [] (F0 m 0 ls [])
  have h : (if x1 < (0:Int32) then (f_markHosts_19 (x2) σ) else ((rd σ 8 x1).bind (fun v1 => if v1 = (1:Int32) then ((f_markBelow (x1) σ).bind (fun v2 => f_markHosts_19 (x2) v2)) else (f_markHosts_19 (x2) σ)))) = some q := h
  refine lv_iload_n hx hb dX12_markHosts_0 rfl (lv_at hl 1 rfl) ?_
  refine lv_if_lt (tgt := 19) hx hb dX12_markHosts_1 rfl (fun hc => ?_) (fun hc => ?_)
  · have h := ip hc h
    exact N_markHosts_19 X hP hF (lv_sub hl [0, 2] rfl) h
  · have h := ine hc h
    refine lv_aload_n hx hb dX12_markHosts_4 rfl (lv_at hl 0 rfl) ?_
    refine mg_shadow X hP dX12_markHosts_5 ?_
    refine lv_iload_n hx hb dX12_markHosts_8 rfl (lv_at hl 1 rfl) ?_
    obtain ⟨v1, hv1, h⟩ := ob h
    refine m_ald X hP hv1 dX12_markHosts_9 ?_
    refine lv_iconst (v := (1:Int32)) hx hb dX12_markHosts_10 (by decide) ?_
    refine lv_icmp_ne (tgt := 19) hx hb dX12_markHosts_11 rfl (fun hc => ?_) (fun hc => ?_)
    · have h := ine hc h
      exact N_markHosts_19 X hP hF (lv_sub hl [0, 2] rfl) h
    · have h := ip hc h
      refine lv_aload_n hx hb dX12_markHosts_14 rfl (lv_at hl 0 rfl) ?_
      refine lv_iload_n hx hb dX12_markHosts_15 rfl (lv_at hl 1 rfl) ?_
      obtain ⟨v2, hv2, h⟩ := ob h
      refine cl_markBelow X hP hF hv2 ⟨Nat.le_of_ble_eq_true rfl, Nat.le_of_ble_eq_true rfl⟩ hl.1 (Nat.le_of_ble_eq_true rfl) dX12_markHosts_16 (fun H locs hP hF => ?_)
      exact N_markHosts_19 X hP hF (lv_sub hl [0, 2] rfl) h
theorem cl_markHosts {p : Program} {l : Launch} {e : Env} {s : State} {m : MethodId} {args : Array Value} {below : List Frame} {meth : Method} {c : Code} {D : mD} {mb : Nat} {H : Heap} {locs : List Loc} {Q : State → Prop} {cc : ByteArray} {pc fR lR nL : Nat} {ls : Array Slot} {rest : List Value} {ret : Option FieldType} {σ : mS} (X : mX p s m args meth c cc nL ret D) (hP : mP D mb σ H) (hF : mF mb s.heap H locs) {x1 : Int32} {x2 : Int32} {q : mS} (h : f_markHosts x1 x2 σ = some q) (hr : 7 + 1 ≤ fR ∧ 8 + (3 + 11) + 158 ≤ lR) (hl : ls.size = nL) (hW : (rest.map fun v => v.category).sum ≤ 8) (hdg : decode cc pc = .ok (.invokevirtual 506, 3)) (kk : ∀ (H1 : Heap) (locs1 : List Loc), mP D mb q H1 → mF mb s.heap H1 locs1 → W p l e (rM fR lR) s m args below meth c H1 locs1 0 0 Q (F0 m (pc + 3) ls rest)) : W p l e (rM fR lR) s m args below meth c H locs 0 0 Q (F0 m pc ls (.int x2 :: .int x1 :: .ref mb :: rest)) := m_cv (m_run (n := 2) X (K_markHosts l D mb σ x1 x2 h) ⟨w_1942, w_1944, w_79, w_1945⟩ (hyX rfl (by decide +kernel)) rfl hr hP hl hW hdg rfl) hF kk
-- markWith(I)V
def f_markWith (x1 : Int32) (σ : mS) : Option (mS) := (f_mark (((1:Int32) <<< (x1 &&& 31))) σ).bind (fun v1 => (f_markBelow (x1) v1).bind (fun v2 => some v2))
set_option maxRecDepth 20000 in
set_option maxHeartbeats 4000000 in
theorem K_markWith (l : Launch) (D : mD) (mb : Nat) (σ : mS) (x1 : Int32) {q : mS} (h : f_markWith x1 σ = some q) : Met l yX12_markWith (Cond.code yX12_markWith cX12_markWith 2 none :: BG) (rM 7 158) (mPc D mb σ [.int x1]) (mQw D mb q none) 0 0 (mReg mb) := by
  refine Met.ofW (cc := cX12_markWith) (maxL := 2) (ret := none) (by decide) rfl ?_
  intro p e s m args below meth c s₁ B hml hv
  obtain ⟨rfl, hP, hK⟩ := hv
  have X := mX_of B hml rfl hK
  have hx := X.1
  have hb := X.2.1
  have hown := X.2.2.2.1
  have hts := X.2.2.2.2.1
  have hl := lv_entry (.ref mb :: [.int x1]) (n := 2) (Nat.le_of_ble_eq_true rfl)
  rw [lg_entry_eq]
  generalize (lg_sl (.ref mb :: [.int x1]) ++ List.replicate (2 - (lg_sl (.ref mb :: [.int x1])).length) Slot.unset).toArray = ls at hl ⊢
  have hl : lv_has ls 2 [(0, .ref mb), (1, .int x1)] := hl
  have hF : mF mb s.heap s.heap [] := mF.rf
  show mWw p l e 7 158 s m (Value.ref mb :: [.int x1]).toArray below meth c D mb q none s.heap [] (F0 m 0 ls [])
  have h : ((f_mark (((1:Int32) <<< (x1 &&& 31))) σ).bind (fun v1 => (f_markBelow (x1) v1).bind (fun v2 => some v2))) = some q := h
  refine lv_aload_n hx hb dX12_markWith_0 rfl (lv_at hl 0 rfl) ?_
  refine lv_iconst (v := (1:Int32)) hx hb dX12_markWith_1 (by decide) ?_
  refine lv_iload_n hx hb dX12_markWith_2 rfl (lv_at hl 1 rfl) ?_
  refine lv_ishl hx hb dX12_markWith_3 ?_
  obtain ⟨v1, hv1, h⟩ := ob h
  refine cl_mark X hP hF hv1 ⟨Nat.le_of_ble_eq_true rfl, Nat.le_of_ble_eq_true rfl⟩ hl.1 (Nat.le_of_ble_eq_true rfl) dX12_markWith_4 (fun H locs hP hF => ?_)
  refine lv_aload_n hx hb dX12_markWith_7 rfl (lv_at hl 0 rfl) ?_
  refine lv_iload_n hx hb dX12_markWith_8 rfl (lv_at hl 1 rfl) ?_
  obtain ⟨v2, hv2, h⟩ := ob h
  refine cl_markBelow X hP hF hv2 ⟨Nat.le_of_ble_eq_true rfl, Nat.le_of_ble_eq_true rfl⟩ hl.1 (Nat.le_of_ble_eq_true rfl) dX12_markWith_9 (fun H locs hP hF => ?_)
  obtain rfl := sj h
  exact m_wv X hP hF dX12_markWith_12
theorem cl_markWith {p : Program} {l : Launch} {e : Env} {s : State} {m : MethodId} {args : Array Value} {below : List Frame} {meth : Method} {c : Code} {D : mD} {mb : Nat} {H : Heap} {locs : List Loc} {Q : State → Prop} {cc : ByteArray} {pc fR lR nL : Nat} {ls : Array Slot} {rest : List Value} {ret : Option FieldType} {σ : mS} (X : mX p s m args meth c cc nL ret D) (hP : mP D mb σ H) (hF : mF mb s.heap H locs) {x1 : Int32} {q : mS} (h : f_markWith x1 σ = some q) (hr : 7 + 1 ≤ fR ∧ 8 + (2 + 11) + 158 ≤ lR) (hl : ls.size = nL) (hW : (rest.map fun v => v.category).sum ≤ 8) (hdg : decode cc pc = .ok (.invokevirtual 503, 3)) (kk : ∀ (H1 : Heap) (locs1 : List Loc), mP D mb q H1 → mF mb s.heap H1 locs1 → W p l e (rM fR lR) s m args below meth c H1 locs1 0 0 Q (F0 m (pc + 3) ls rest)) : W p l e (rM fR lR) s m args below meth c H locs 0 0 Q (F0 m pc ls (.int x1 :: .ref mb :: rest)) := m_cv (m_run (n := 1) X (K_markWith l D mb σ x1 h) ⟨w_1894, w_1896, w_67, w_1897⟩ (hyX rfl (by decide +kernel)) rfl hr hP hl hW hdg rfl) hF kk
-- markPlace(III)V
def f_markPlace_55   (σ : mS) : Option (mS) := some σ
def f_markPlace_39  (x2 : Int32) (x3 : Int32) (x4 : Int32) (σ : mS) : Option (mS) := (f_markHosts (x2) (x3) σ).bind (fun v1 => if x4 ≤ (1:Int32) then (f_markPlace_55 v1) else ((f_markAll  v1).bind (fun v2 => f_markPlace_55 v2)))
def f_markPlace_9  : Nat → Int32 → Int32 → Int32 → Int32 → mS → Option (mS)
  | 0, _, _, _, _, _ => none
  | n + 1, x2, x3, x4, x5, σ => if x5 < (0:Int32) then (f_markPlace_39 (x2) (x3) (x4) σ) else ((rm x4 (2:Int32)).bind (fun v1 => if v1 = (1:Int32) then ((f_markWith (x5) σ).bind (fun v2 => (f_sibling (x5) v2).bind (fun v3 => f_markPlace_9 n (x2) (x3) (x4) (v3) v2))) else (f_markPlace_39 (x2) (x3) (x4) σ)))
def f_markPlace (x1 : Int32) (x2 : Int32) (x3 : Int32) (σ : mS) : Option (mS) := (f_flags  σ).bind (fun v1 => f_markPlace_9 4000 (x2) (x3) (v1) (x1) σ)
set_option maxRecDepth 20000 in
set_option maxHeartbeats 4000000 in
theorem N_markPlace_55 {p : Program} {l : Launch} {e : Env} {s : State} {m : MethodId} {args : Array Value} {below : List Frame} {meth : Method} {c : Code} {D : mD} {mb : Nat}    {σ : mS} {H : Heap} {locs : List Loc} {ls : Array Slot} {q : mS} (X : mX p s m args meth c cX12_markPlace 6 none D) (hP : mP D mb σ H) (hF : mF mb s.heap H locs)  (hl : lv_has ls 6 [(0, .ref mb)]) (h : f_markPlace_55   σ = some q) : mWw p l e 8 180 s m args below meth c D mb q none H locs (F0 m 55 ls []) := by
  have hx := X.1
  have hb := X.2.1
  have hown := X.2.2.2.1
  have hts := X.2.2.2.2.1
  have h : (some σ) = some q := h
  obtain rfl := sj h
  exact m_wv X hP hF dX12_markPlace_55
set_option maxRecDepth 20000 in
set_option maxHeartbeats 4000000 in
theorem N_markPlace_39 {p : Program} {l : Launch} {e : Env} {s : State} {m : MethodId} {args : Array Value} {below : List Frame} {meth : Method} {c : Code} {D : mD} {mb : Nat}   {x2 : Int32} {x3 : Int32} {x4 : Int32} {σ : mS} {H : Heap} {locs : List Loc} {ls : Array Slot} {q : mS} (X : mX p s m args meth c cX12_markPlace 6 none D) (hP : mP D mb σ H) (hF : mF mb s.heap H locs)  (hl : lv_has ls 6 [(0, .ref mb), (2, .int x2), (3, .int x3), (4, .int x4)]) (h : f_markPlace_39  x2 x3 x4 σ = some q) : mWw p l e 8 180 s m args below meth c D mb q none H locs (F0 m 39 ls []) := by
  have hx := X.1
  have hb := X.2.1
  have hown := X.2.2.2.1
  have hts := X.2.2.2.2.1
  have h : ((f_markHosts (x2) (x3) σ).bind (fun v1 => if x4 ≤ (1:Int32) then (f_markPlace_55 v1) else ((f_markAll  v1).bind (fun v2 => f_markPlace_55 v2)))) = some q := h
  refine lv_aload_n hx hb dX12_markPlace_39 rfl (lv_at hl 0 rfl) ?_
  refine lv_iload_n hx hb dX12_markPlace_40 rfl (lv_at hl 1 rfl) ?_
  refine lv_iload_n hx hb dX12_markPlace_41 rfl (lv_at hl 2 rfl) ?_
  obtain ⟨v1, hv1, h⟩ := ob h
  refine cl_markHosts X hP hF hv1 ⟨Nat.le_of_ble_eq_true rfl, Nat.le_of_ble_eq_true rfl⟩ hl.1 (Nat.le_of_ble_eq_true rfl) dX12_markPlace_42 (fun H locs hP hF => ?_)
  refine lv_iload hx hb dX12_markPlace_45 (lv_at hl 3 rfl) ?_
  refine lv_iconst (v := (1:Int32)) hx hb dX12_markPlace_47 (by decide) ?_
  refine lv_icmp_le (tgt := 55) hx hb dX12_markPlace_48 rfl (fun hc => ?_) (fun hc => ?_)
  · have h := ip hc h
    exact N_markPlace_55 X hP hF (lv_sub hl [0] rfl) h
  · have h := ine hc h
    refine lv_aload_n hx hb dX12_markPlace_51 rfl (lv_at hl 0 rfl) ?_
    obtain ⟨v2, hv2, h⟩ := ob h
    refine cl_markAll X hP hF hv2 ⟨Nat.le_of_ble_eq_true rfl, Nat.le_of_ble_eq_true rfl⟩ hl.1 (Nat.le_of_ble_eq_true rfl) dX12_markPlace_52 (fun H locs hP hF => ?_)
    exact N_markPlace_55 X hP hF (lv_sub hl [0] rfl) h
set_option maxRecDepth 20000 in
set_option maxHeartbeats 4000000 in
theorem N_markPlace_9 {p : Program} {l : Launch} {e : Env} {s : State} {m : MethodId} {args : Array Value} {below : List Frame} {meth : Method} {c : Code} {D : mD} {mb : Nat}  {n : Nat} {x2 : Int32} {x3 : Int32} {x4 : Int32} {x5 : Int32} {σ : mS} {H : Heap} {locs : List Loc} {ls : Array Slot} {q : mS} (X : mX p s m args meth c cX12_markPlace 6 none D) (hP : mP D mb σ H) (hF : mF mb s.heap H locs)  (hl : lv_has ls 6 [(0, .ref mb), (2, .int x2), (3, .int x3), (4, .int x4), (5, .int x5)]) (h : f_markPlace_9  n x2 x3 x4 x5 σ = some q) : mWw p l e 8 180 s m args below meth c D mb q none H locs (F0 m 9 ls []) := by
  have hx := X.1
  have hb := X.2.1
  have hown := X.2.2.2.1
  have hts := X.2.2.2.2.1
  induction n generalizing x2 x3 x4 x5 σ H locs ls with
  | zero => exact absurd (show none = some q from h) (by simp)
  | succ n ih =>
    have h : (if x5 < (0:Int32) then (f_markPlace_39 (x2) (x3) (x4) σ) else ((rm x4 (2:Int32)).bind (fun v1 => if v1 = (1:Int32) then ((f_markWith (x5) σ).bind (fun v2 => (f_sibling (x5) v2).bind (fun v3 => f_markPlace_9 n (x2) (x3) (x4) (v3) v2))) else (f_markPlace_39 (x2) (x3) (x4) σ)))) = some q := h
    refine lv_iload hx hb dX12_markPlace_9 (lv_at hl 4 rfl) ?_
    refine lv_if_lt (tgt := 39) hx hb dX12_markPlace_11 rfl (fun hc => ?_) (fun hc => ?_)
    · have h := ip hc h
      exact N_markPlace_39 X hP hF (lv_sub hl [0, 1, 2, 3] rfl) h
    · have h := ine hc h
      refine lv_iload hx hb dX12_markPlace_14 (lv_at hl 3 rfl) ?_
      refine lv_iconst (v := (2:Int32)) hx hb dX12_markPlace_16 (by decide) ?_
      obtain ⟨v1, hv1, h⟩ := ob h
      obtain ⟨hnv1, hev1⟩ := rm_spec hv1
      refine lv_irem hx hb dX12_markPlace_17 hnv1 ?_
      rw [hev1]
      refine lv_iconst (v := (1:Int32)) hx hb dX12_markPlace_18 (by decide) ?_
      refine lv_icmp_ne (tgt := 39) hx hb dX12_markPlace_19 rfl (fun hc => ?_) (fun hc => ?_)
      · have h := ine hc h
        exact N_markPlace_39 X hP hF (lv_sub hl [0, 1, 2, 3] rfl) h
      · have h := ip hc h
        refine lv_aload_n hx hb dX12_markPlace_22 rfl (lv_at hl 0 rfl) ?_
        refine lv_iload hx hb dX12_markPlace_23 (lv_at hl 4 rfl) ?_
        obtain ⟨v2, hv2, h⟩ := ob h
        refine cl_markWith X hP hF hv2 ⟨Nat.le_of_ble_eq_true rfl, Nat.le_of_ble_eq_true rfl⟩ hl.1 (Nat.le_of_ble_eq_true rfl) dX12_markPlace_25 (fun H locs hP hF => ?_)
        refine lv_aload_n hx hb dX12_markPlace_28 rfl (lv_at hl 0 rfl) ?_
        refine lv_iload hx hb dX12_markPlace_29 (lv_at hl 4 rfl) ?_
        obtain ⟨v3, hv3, h⟩ := ob h
        refine cl_sibling X hP hv3 ⟨Nat.le_of_ble_eq_true rfl, Nat.le_of_ble_eq_true rfl⟩ hl.1 (Nat.le_of_ble_eq_true rfl) dX12_markPlace_31 ?_
        refine lv_istore hx hb dX12_markPlace_34 hl (Nat.le_of_ble_eq_true rfl) rfl (fun ls (hl : lv_has ls 6 [(5, .int v3), (0, .ref mb), (2, .int x2), (3, .int x3), (4, .int x4)]) => ?_)
        refine lv_goto (tgt := 9) hx hb dX12_markPlace_36 rfl ?_
        exact ih hP hF (lv_sub hl [1, 2, 3, 4, 0] rfl) h
set_option maxRecDepth 20000 in
set_option maxHeartbeats 4000000 in
theorem K_markPlace (l : Launch) (D : mD) (mb : Nat) (σ : mS) (x1 : Int32) (x2 : Int32) (x3 : Int32) {q : mS} (h : f_markPlace x1 x2 x3 σ = some q) : Met l yX12_markPlace (Cond.code yX12_markPlace cX12_markPlace 6 none :: BG) (rM 8 180) (mPc D mb σ [.int x1, .int x2, .int x3]) (mQw D mb q none) 0 0 (mReg mb) := by
  refine Met.ofW (cc := cX12_markPlace) (maxL := 6) (ret := none) (by decide) rfl ?_
  intro p e s m args below meth c s₁ B hml hv
  obtain ⟨rfl, hP, hK⟩ := hv
  have X := mX_of B hml rfl hK
  have hx := X.1
  have hb := X.2.1
  have hown := X.2.2.2.1
  have hts := X.2.2.2.2.1
  have hl := lv_entry (.ref mb :: [.int x1, .int x2, .int x3]) (n := 6) (Nat.le_of_ble_eq_true rfl)
  rw [lg_entry_eq]
  generalize (lg_sl (.ref mb :: [.int x1, .int x2, .int x3]) ++ List.replicate (6 - (lg_sl (.ref mb :: [.int x1, .int x2, .int x3])).length) Slot.unset).toArray = ls at hl ⊢
  have hl : lv_has ls 6 [(0, .ref mb), (1, .int x1), (2, .int x2), (3, .int x3)] := hl
  have hF : mF mb s.heap s.heap [] := mF.rf
  show mWw p l e 8 180 s m (Value.ref mb :: [.int x1, .int x2, .int x3]).toArray below meth c D mb q none s.heap [] (F0 m 0 ls [])
  have h : ((f_flags  σ).bind (fun v1 => f_markPlace_9 4000 (x2) (x3) (v1) (x1) σ)) = some q := h
  refine lv_aload_n hx hb dX12_markPlace_0 rfl (lv_at hl 0 rfl) ?_
  obtain ⟨v1, hv1, h⟩ := ob h
  refine cl_flags X hP hv1 ⟨Nat.le_of_ble_eq_true rfl, Nat.le_of_ble_eq_true rfl⟩ hl.1 (Nat.le_of_ble_eq_true rfl) dX12_markPlace_1 ?_
  refine lv_istore hx hb dX12_markPlace_4 hl (Nat.le_of_ble_eq_true rfl) rfl (fun ls (hl : lv_has ls 6 [(4, .int v1), (0, .ref mb), (1, .int x1), (2, .int x2), (3, .int x3)]) => ?_)
  refine lv_iload_n hx hb dX12_markPlace_6 rfl (lv_at hl 2 rfl) ?_
  refine lv_istore hx hb dX12_markPlace_7 hl (Nat.le_of_ble_eq_true rfl) rfl (fun ls (hl : lv_has ls 6 [(5, .int x1), (4, .int v1), (0, .ref mb), (1, .int x1), (2, .int x2), (3, .int x3)]) => ?_)
  exact N_markPlace_9 X hP hF (lv_sub hl [2, 4, 5, 1, 0] rfl) h
theorem cl_markPlace {p : Program} {l : Launch} {e : Env} {s : State} {m : MethodId} {args : Array Value} {below : List Frame} {meth : Method} {c : Code} {D : mD} {mb : Nat} {H : Heap} {locs : List Loc} {Q : State → Prop} {cc : ByteArray} {pc fR lR nL : Nat} {ls : Array Slot} {rest : List Value} {ret : Option FieldType} {σ : mS} (X : mX p s m args meth c cc nL ret D) (hP : mP D mb σ H) (hF : mF mb s.heap H locs) {x1 : Int32} {x2 : Int32} {x3 : Int32} {q : mS} (h : f_markPlace x1 x2 x3 σ = some q) (hr : 8 + 1 ≤ fR ∧ 8 + (6 + 11) + 180 ≤ lR) (hl : ls.size = nL) (hW : (rest.map fun v => v.category).sum ≤ 8) (hdg : decode cc pc = .ok (.invokevirtual 521, 3)) (kk : ∀ (H1 : Heap) (locs1 : List Loc), mP D mb q H1 → mF mb s.heap H1 locs1 → W p l e (rM fR lR) s m args below meth c H1 locs1 0 0 Q (F0 m (pc + 3) ls rest)) : W p l e (rM fR lR) s m args below meth c H locs 0 0 Q (F0 m pc ls (.int x3 :: .int x2 :: .int x1 :: .ref mb :: rest)) := m_cv (m_run (n := 3) X (K_markPlace l D mb σ x1 x2 x3 h) ⟨w_1934, w_1936, w_77, w_1937⟩ (hyX rfl (by decide +kernel)) rfl hr hP hl hW hdg rfl) hF kk
-- make(I)I
def f_make_30  (x1 : Int32) (y1 : Int32) (σ : mS) : Option (Int32 × mS) := (f_holds (y1) σ).bind (fun v1 => if v1.1 = (0:Int32) then ((wr v1.2 0 (v1.2.2 13) x1).bind (fun s2 => some ((((sf s2 13 ((s2.2 13) + (1:Int32))).2 13) - (1:Int32)), (sf s2 13 ((s2.2 13) + (1:Int32)))))) else (some (((-1):Int32), v1.2)))
def f_make (x1 : Int32) (σ : mS) : Option (Int32 × mS) := (f_in (x1) ((0:Int32)) ((7:Int32))).bind (fun v1 => if v1 = (0:Int32) then (f_make_30 (x1) ((1:Int32)) σ) else (if (σ.2 13) = (30:Int32) then (f_make_30 (x1) ((2:Int32)) σ) else (f_make_30 (x1) ((0:Int32)) σ)))
set_option maxRecDepth 20000 in
set_option maxHeartbeats 4000000 in
theorem N_make_30 {p : Program} {l : Launch} {e : Env} {s : State} {m : MethodId} {args : Array Value} {below : List Frame} {meth : Method} {c : Code} {D : mD} {mb : Nat}   {x1 : Int32} {y1 : Int32} {σ : mS} {H : Heap} {locs : List Loc} {ls : Array Slot} {q : Int32 × mS} (X : mX p s m args meth c cX12_make 2 (some .int) D) (hP : mP D mb σ H) (hF : mF mb s.heap H locs)  (hl : lv_has ls 2 [(0, .ref mb), (1, .int x1)]) (h : f_make_30  x1 y1 σ = some q) : mWw p l e 1 23 s m args below meth c D mb q.2 (some (.int q.1)) H locs (F0 m 30 ls [.int y1, .ref mb]) := by
  have hx := X.1
  have hb := X.2.1
  have hown := X.2.2.2.1
  have hts := X.2.2.2.2.1
  have h : ((f_holds (y1) σ).bind (fun v1 => if v1.1 = (0:Int32) then ((wr v1.2 0 (v1.2.2 13) x1).bind (fun s2 => some ((((sf s2 13 ((s2.2 13) + (1:Int32))).2 13) - (1:Int32)), (sf s2 13 ((s2.2 13) + (1:Int32)))))) else (some (((-1):Int32), v1.2)))) = some q := h
  obtain ⟨v1, hv1, h⟩ := ob h
  refine cl_holds X hP hF hv1 ⟨Nat.le_of_ble_eq_true rfl, Nat.le_of_ble_eq_true rfl⟩ hl.1 (Nat.le_of_ble_eq_true rfl) dX12_make_30 (fun H locs hP hF => ?_)
  refine lv_if_eq (tgt := 38) hx hb dX12_make_33 rfl (fun hc => ?_) (fun hc => ?_)
  · have h := ip hc h
    refine lv_aload_n hx hb dX12_make_38 rfl (lv_at hl 0 rfl) ?_
    refine mg_kind X hP dX12_make_39 ?_
    refine lv_aload_n hx hb dX12_make_42 rfl (lv_at hl 0 rfl) ?_
    refine mg_made X hP dX12_make_43 ?_
    refine lv_iload_n hx hb dX12_make_46 rfl (lv_at hl 1 rfl) ?_
    obtain ⟨s2, hs2, h⟩ := ob h
    refine m_ast X hP hF hs2 dX12_make_47 (fun H locs hP hF => ?_)
    refine lv_aload_n hx hb dX12_make_48 rfl (lv_at hl 0 rfl) ?_
    refine lv_dup hx hb dX12_make_49 rfl ?_
    refine mg_made X hP dX12_make_50 ?_
    refine lv_iconst (v := (1:Int32)) hx hb dX12_make_53 (by decide) ?_
    refine lv_iadd hx hb dX12_make_54 ?_
    refine mp_made X hP hF dX12_make_55 (fun H locs hP hF => ?_)
    refine lv_aload_n hx hb dX12_make_58 rfl (lv_at hl 0 rfl) ?_
    refine mg_made X hP dX12_make_59 ?_
    refine lv_iconst (v := (1:Int32)) hx hb dX12_make_62 (by decide) ?_
    refine lv_isub hx hb dX12_make_63 ?_
    obtain rfl := sj h
    exact m_wi X hP hF dX12_make_64
  · have h := ine hc h
    refine lv_iconst (v := ((-1):Int32)) hx hb dX12_make_36 (by decide) ?_
    obtain rfl := sj h
    exact m_wi X hP hF dX12_make_37
set_option maxRecDepth 20000 in
set_option maxHeartbeats 4000000 in
theorem K_make (l : Launch) (D : mD) (mb : Nat) (σ : mS) (x1 : Int32) {q : Int32 × mS} (h : f_make x1 σ = some q) : Met l yX12_make (Cond.code yX12_make cX12_make 2 (some .int) :: BG) (rM 1 23) (mPc D mb σ [.int x1]) (mQw D mb q.2 (some (.int q.1))) 0 0 (mReg mb) := by
  refine Met.ofW (cc := cX12_make) (maxL := 2) (ret := (some .int)) (by decide) rfl ?_
  intro p e s m args below meth c s₁ B hml hv
  obtain ⟨rfl, hP, hK⟩ := hv
  have X := mX_of B hml rfl hK
  have hx := X.1
  have hb := X.2.1
  have hown := X.2.2.2.1
  have hts := X.2.2.2.2.1
  have hl := lv_entry (.ref mb :: [.int x1]) (n := 2) (Nat.le_of_ble_eq_true rfl)
  rw [lg_entry_eq]
  generalize (lg_sl (.ref mb :: [.int x1]) ++ List.replicate (2 - (lg_sl (.ref mb :: [.int x1])).length) Slot.unset).toArray = ls at hl ⊢
  have hl : lv_has ls 2 [(0, .ref mb), (1, .int x1)] := hl
  have hF : mF mb s.heap s.heap [] := mF.rf
  show mWw p l e 1 23 s m (Value.ref mb :: [.int x1]).toArray below meth c D mb q.2 (some (.int q.1)) s.heap [] (F0 m 0 ls [])
  have h : ((f_in (x1) ((0:Int32)) ((7:Int32))).bind (fun v1 => if v1 = (0:Int32) then (f_make_30 (x1) ((1:Int32)) σ) else (if (σ.2 13) = (30:Int32) then (f_make_30 (x1) ((2:Int32)) σ) else (f_make_30 (x1) ((0:Int32)) σ)))) = some q := h
  refine lv_aload_n hx hb dX12_make_0 rfl (lv_at hl 0 rfl) ?_
  refine lv_aload_n hx hb dX12_make_1 rfl (lv_at hl 0 rfl) ?_
  refine lv_iload_n hx hb dX12_make_2 rfl (lv_at hl 1 rfl) ?_
  refine lv_iconst (v := (0:Int32)) hx hb dX12_make_3 (by decide) ?_
  refine lv_bipush (v := (7:Int32)) hx hb dX12_make_4 (by decide) ?_
  obtain ⟨v1, hv1, h⟩ := ob h
  refine cl_in X hP hv1 ⟨Nat.le_of_ble_eq_true rfl, Nat.le_of_ble_eq_true rfl⟩ hl.1 (Nat.le_of_ble_eq_true rfl) dX12_make_6 ?_
  refine lv_if_ne (tgt := 16) hx hb dX12_make_9 rfl (fun hc => ?_) (fun hc => ?_)
  · have h := ine hc h
    refine lv_aload_n hx hb dX12_make_16 rfl (lv_at hl 0 rfl) ?_
    refine mg_made X hP dX12_make_17 ?_
    refine lv_bipush (v := (30:Int32)) hx hb dX12_make_20 (by decide) ?_
    refine lv_icmp_ne (tgt := 29) hx hb dX12_make_22 rfl (fun hc => ?_) (fun hc => ?_)
    · have h := ine hc h
      refine lv_iconst (v := (0:Int32)) hx hb dX12_make_29 (by decide) ?_
      exact N_make_30 X hP hF (lv_sub hl [0, 1] rfl) h
    · have h := ip hc h
      refine lv_iconst (v := (2:Int32)) hx hb dX12_make_25 (by decide) ?_
      refine lv_goto (tgt := 30) hx hb dX12_make_26 rfl ?_
      exact N_make_30 X hP hF (lv_sub hl [0, 1] rfl) h
  · have h := ip hc h
    refine lv_iconst (v := (1:Int32)) hx hb dX12_make_12 (by decide) ?_
    refine lv_goto (tgt := 30) hx hb dX12_make_13 rfl ?_
    exact N_make_30 X hP hF (lv_sub hl [0, 1] rfl) h
-- shadow(I)V
def f_shadow_45   (σ : mS) : Option (mS) := some σ
def f_shadow_28  (x1 : Int32) (y1 : Int32) (σ : mS) : Option (mS) := (f_holds (y1) σ).bind (fun v1 => if v1.1 = (0:Int32) then ((wr v1.2 8 x1 (1:Int32)).bind (fun s2 => (f_markAll  s2).bind (fun v3 => f_shadow_45 v3))) else (f_shadow_45 v1.2))
def f_shadow (x1 : Int32) (σ : mS) : Option (mS) := (f_isElement (x1) σ).bind (fun v1 => if v1 = (0:Int32) then (f_shadow_28 (x1) ((1:Int32)) σ) else ((rd σ 8 x1).bind (fun v2 => if v2 = (1:Int32) then (f_shadow_28 (x1) ((2:Int32)) σ) else (f_shadow_28 (x1) ((0:Int32)) σ))))
set_option maxRecDepth 20000 in
set_option maxHeartbeats 4000000 in
theorem N_shadow_45 {p : Program} {l : Launch} {e : Env} {s : State} {m : MethodId} {args : Array Value} {below : List Frame} {meth : Method} {c : Code} {D : mD} {mb : Nat}    {σ : mS} {H : Heap} {locs : List Loc} {ls : Array Slot} {q : mS} (X : mX p s m args meth c cX12_shadow 2 none D) (hP : mP D mb σ H) (hF : mF mb s.heap H locs)  (hl : lv_has ls 2 [(0, .ref mb)]) (h : f_shadow_45   σ = some q) : mWw p l e 5 108 s m args below meth c D mb q none H locs (F0 m 45 ls []) := by
  have hx := X.1
  have hb := X.2.1
  have hown := X.2.2.2.1
  have hts := X.2.2.2.2.1
  have h : (some σ) = some q := h
  obtain rfl := sj h
  exact m_wv X hP hF dX12_shadow_45
set_option maxRecDepth 20000 in
set_option maxHeartbeats 4000000 in
theorem N_shadow_28 {p : Program} {l : Launch} {e : Env} {s : State} {m : MethodId} {args : Array Value} {below : List Frame} {meth : Method} {c : Code} {D : mD} {mb : Nat}   {x1 : Int32} {y1 : Int32} {σ : mS} {H : Heap} {locs : List Loc} {ls : Array Slot} {q : mS} (X : mX p s m args meth c cX12_shadow 2 none D) (hP : mP D mb σ H) (hF : mF mb s.heap H locs)  (hl : lv_has ls 2 [(0, .ref mb), (1, .int x1)]) (h : f_shadow_28  x1 y1 σ = some q) : mWw p l e 5 108 s m args below meth c D mb q none H locs (F0 m 28 ls [.int y1, .ref mb]) := by
  have hx := X.1
  have hb := X.2.1
  have hown := X.2.2.2.1
  have hts := X.2.2.2.2.1
  have h : ((f_holds (y1) σ).bind (fun v1 => if v1.1 = (0:Int32) then ((wr v1.2 8 x1 (1:Int32)).bind (fun s2 => (f_markAll  s2).bind (fun v3 => f_shadow_45 v3))) else (f_shadow_45 v1.2))) = some q := h
  obtain ⟨v1, hv1, h⟩ := ob h
  refine cl_holds X hP hF hv1 ⟨Nat.le_of_ble_eq_true rfl, Nat.le_of_ble_eq_true rfl⟩ hl.1 (Nat.le_of_ble_eq_true rfl) dX12_shadow_28 (fun H locs hP hF => ?_)
  refine lv_if_ne (tgt := 45) hx hb dX12_shadow_31 rfl (fun hc => ?_) (fun hc => ?_)
  · have h := ine hc h
    exact N_shadow_45 X hP hF (lv_sub hl [0] rfl) h
  · have h := ip hc h
    refine lv_aload_n hx hb dX12_shadow_34 rfl (lv_at hl 0 rfl) ?_
    refine mg_shadow X hP dX12_shadow_35 ?_
    refine lv_iload_n hx hb dX12_shadow_38 rfl (lv_at hl 1 rfl) ?_
    refine lv_iconst (v := (1:Int32)) hx hb dX12_shadow_39 (by decide) ?_
    obtain ⟨s2, hs2, h⟩ := ob h
    refine m_ast X hP hF hs2 dX12_shadow_40 (fun H locs hP hF => ?_)
    refine lv_aload_n hx hb dX12_shadow_41 rfl (lv_at hl 0 rfl) ?_
    obtain ⟨v3, hv3, h⟩ := ob h
    refine cl_markAll X hP hF hv3 ⟨Nat.le_of_ble_eq_true rfl, Nat.le_of_ble_eq_true rfl⟩ hl.1 (Nat.le_of_ble_eq_true rfl) dX12_shadow_42 (fun H locs hP hF => ?_)
    exact N_shadow_45 X hP hF (lv_sub hl [0] rfl) h
set_option maxRecDepth 20000 in
set_option maxHeartbeats 4000000 in
theorem K_shadow (l : Launch) (D : mD) (mb : Nat) (σ : mS) (x1 : Int32) {q : mS} (h : f_shadow x1 σ = some q) : Met l yX12_shadow (Cond.code yX12_shadow cX12_shadow 2 none :: BG) (rM 5 108) (mPc D mb σ [.int x1]) (mQw D mb q none) 0 0 (mReg mb) := by
  refine Met.ofW (cc := cX12_shadow) (maxL := 2) (ret := none) (by decide) rfl ?_
  intro p e s m args below meth c s₁ B hml hv
  obtain ⟨rfl, hP, hK⟩ := hv
  have X := mX_of B hml rfl hK
  have hx := X.1
  have hb := X.2.1
  have hown := X.2.2.2.1
  have hts := X.2.2.2.2.1
  have hl := lv_entry (.ref mb :: [.int x1]) (n := 2) (Nat.le_of_ble_eq_true rfl)
  rw [lg_entry_eq]
  generalize (lg_sl (.ref mb :: [.int x1]) ++ List.replicate (2 - (lg_sl (.ref mb :: [.int x1])).length) Slot.unset).toArray = ls at hl ⊢
  have hl : lv_has ls 2 [(0, .ref mb), (1, .int x1)] := hl
  have hF : mF mb s.heap s.heap [] := mF.rf
  show mWw p l e 5 108 s m (Value.ref mb :: [.int x1]).toArray below meth c D mb q none s.heap [] (F0 m 0 ls [])
  have h : ((f_isElement (x1) σ).bind (fun v1 => if v1 = (0:Int32) then (f_shadow_28 (x1) ((1:Int32)) σ) else ((rd σ 8 x1).bind (fun v2 => if v2 = (1:Int32) then (f_shadow_28 (x1) ((2:Int32)) σ) else (f_shadow_28 (x1) ((0:Int32)) σ))))) = some q := h
  refine lv_aload_n hx hb dX12_shadow_0 rfl (lv_at hl 0 rfl) ?_
  refine lv_aload_n hx hb dX12_shadow_1 rfl (lv_at hl 0 rfl) ?_
  refine lv_iload_n hx hb dX12_shadow_2 rfl (lv_at hl 1 rfl) ?_
  obtain ⟨v1, hv1, h⟩ := ob h
  refine cl_isElement X hP hv1 ⟨Nat.le_of_ble_eq_true rfl, Nat.le_of_ble_eq_true rfl⟩ hl.1 (Nat.le_of_ble_eq_true rfl) dX12_shadow_3 ?_
  refine lv_if_ne (tgt := 13) hx hb dX12_shadow_6 rfl (fun hc => ?_) (fun hc => ?_)
  · have h := ine hc h
    refine lv_aload_n hx hb dX12_shadow_13 rfl (lv_at hl 0 rfl) ?_
    refine mg_shadow X hP dX12_shadow_14 ?_
    refine lv_iload_n hx hb dX12_shadow_17 rfl (lv_at hl 1 rfl) ?_
    obtain ⟨v2, hv2, h⟩ := ob h
    refine m_ald X hP hv2 dX12_shadow_18 ?_
    refine lv_iconst (v := (1:Int32)) hx hb dX12_shadow_19 (by decide) ?_
    refine lv_icmp_ne (tgt := 27) hx hb dX12_shadow_20 rfl (fun hc => ?_) (fun hc => ?_)
    · have h := ine hc h
      refine lv_iconst (v := (0:Int32)) hx hb dX12_shadow_27 (by decide) ?_
      exact N_shadow_28 X hP hF (lv_sub hl [0, 1] rfl) h
    · have h := ip hc h
      refine lv_iconst (v := (2:Int32)) hx hb dX12_shadow_23 (by decide) ?_
      refine lv_goto (tgt := 28) hx hb dX12_shadow_24 rfl ?_
      exact N_shadow_28 X hP hF (lv_sub hl [0, 1] rfl) h
  · have h := ip hc h
    refine lv_iconst (v := (1:Int32)) hx hb dX12_shadow_9 (by decide) ?_
    refine lv_goto (tgt := 28) hx hb dX12_shadow_10 rfl ?_
    exact N_shadow_28 X hP hF (lv_sub hl [0, 1] rfl) h
-- within(II)Z
def f_within_49  (y0 : Int32) (σ : mS) : Option (Int32) := rz y0
def f_within_39  (x2 : Int32) (x3 : Int32) (σ : mS) : Option (Int32) := if x3 = x2 then (f_within_49 ((1:Int32)) σ) else (f_within_49 ((0:Int32)) σ)
def f_within_35 (k2 : Int32 → Int32 → Option (Int32)) (x2 : Int32) (y0 : Int32) (σ : mS) : Option (Int32) := k2 (x2) (y0)
def f_within_2  : Nat → Int32 → Int32 → mS → Option (Int32)
  | 0, _, _, _ => none
  | n + 1, x2, x3, σ => if x3 < (0:Int32) then (f_within_39 (x2) (x3) σ) else (if x3 = x2 then (f_within_39 (x2) (x3) σ) else ((rd σ 6 x3).bind (fun v1 => if v1 < (0:Int32) then ((rd σ 7 x3).bind (fun v2 => f_within_35 (fun z0 z1 => f_within_2 n z0 z1 σ) (x2) (v2) σ)) else ((rd σ 6 x3).bind (fun v3 => f_within_35 (fun z0 z1 => f_within_2 n z0 z1 σ) (x2) (v3) σ)))))
def f_within (x1 : Int32) (x2 : Int32) (σ : mS) : Option (Int32) := f_within_2 4000 (x2) (x1) σ
set_option maxRecDepth 20000 in
set_option maxHeartbeats 4000000 in
theorem N_within_49 {p : Program} {l : Launch} {e : Env} {s : State} {m : MethodId} {args : Array Value} {below : List Frame} {meth : Method} {c : Code} {D : mD} {mb : Nat}   {y0 : Int32} {σ : mS} {ls : Array Slot} {r : Int32} (X : mX p s m args meth c cX12_within 4 (some .boolean) D) (hP : mP D mb σ s.heap)  (hl : lv_has ls 4 [(0, .ref mb)]) (h : f_within_49  y0 σ = some r) : mWr p l e 0 0 s m args below meth c (some (.int r)) (F0 m 49 ls [.int y0]) := by
  have hx := X.1
  have hb := X.2.1
  have hown := X.2.2.2.1
  have hts := X.2.2.2.2.1
  have h : (rz y0) = some r := h
  obtain ⟨hz, rfl⟩ := rz_spec h
  exact m_rz X hz dX12_within_49
set_option maxRecDepth 20000 in
set_option maxHeartbeats 4000000 in
theorem N_within_39 {p : Program} {l : Launch} {e : Env} {s : State} {m : MethodId} {args : Array Value} {below : List Frame} {meth : Method} {c : Code} {D : mD} {mb : Nat}   {x2 : Int32} {x3 : Int32} {σ : mS} {ls : Array Slot} {r : Int32} (X : mX p s m args meth c cX12_within 4 (some .boolean) D) (hP : mP D mb σ s.heap)  (hl : lv_has ls 4 [(0, .ref mb), (2, .int x2), (3, .int x3)]) (h : f_within_39  x2 x3 σ = some r) : mWr p l e 0 0 s m args below meth c (some (.int r)) (F0 m 39 ls []) := by
  have hx := X.1
  have hb := X.2.1
  have hown := X.2.2.2.1
  have hts := X.2.2.2.2.1
  have h : (if x3 = x2 then (f_within_49 ((1:Int32)) σ) else (f_within_49 ((0:Int32)) σ)) = some r := h
  refine lv_iload_n hx hb dX12_within_39 rfl (lv_at hl 2 rfl) ?_
  refine lv_iload_n hx hb dX12_within_40 rfl (lv_at hl 1 rfl) ?_
  refine lv_icmp_ne (tgt := 48) hx hb dX12_within_41 rfl (fun hc => ?_) (fun hc => ?_)
  · have h := ine hc h
    refine lv_iconst (v := (0:Int32)) hx hb dX12_within_48 (by decide) ?_
    exact N_within_49 X hP (lv_sub hl [0] rfl) h
  · have h := ip hc h
    refine lv_iconst (v := (1:Int32)) hx hb dX12_within_44 (by decide) ?_
    refine lv_goto (tgt := 49) hx hb dX12_within_45 rfl ?_
    exact N_within_49 X hP (lv_sub hl [0] rfl) h
set_option maxRecDepth 20000 in
set_option maxHeartbeats 4000000 in
theorem N_within_35 {p : Program} {l : Launch} {e : Env} {s : State} {m : MethodId} {args : Array Value} {below : List Frame} {meth : Method} {c : Code} {D : mD} {mb : Nat} {k2 : Int32 → Int32 → Option (Int32)}  {x2 : Int32} {y0 : Int32} {σ : mS} {ls : Array Slot} {r : Int32} (X : mX p s m args meth c cX12_within 4 (some .boolean) D) (hP : mP D mb σ s.heap) (hk2 : ∀ {x2 : Int32} {x3 : Int32} {ls : Array Slot}, lv_has ls 4 [(0, .ref mb), (2, .int x2), (3, .int x3)] → k2 x2 x3 = some r → mWr p l e 0 0 s m args below meth c (some (.int r)) (F0 m 2 ls [])) (hl : lv_has ls 4 [(0, .ref mb), (2, .int x2)]) (h : f_within_35 k2 x2 y0 σ = some r) : mWr p l e 0 0 s m args below meth c (some (.int r)) (F0 m 35 ls [.int y0]) := by
  have hx := X.1
  have hb := X.2.1
  have hown := X.2.2.2.1
  have hts := X.2.2.2.2.1
  have h : (k2 (x2) (y0)) = some r := h
  refine lv_istore_n hx hb dX12_within_35 rfl hl (Nat.le_of_ble_eq_true rfl) rfl (fun ls (hl : lv_has ls 4 [(3, .int y0), (0, .ref mb), (2, .int x2)]) => ?_)
  refine lv_goto (tgt := 2) hx hb dX12_within_36 rfl ?_
  exact hk2 (lv_sub hl [1, 2, 0] rfl) h
set_option maxRecDepth 20000 in
set_option maxHeartbeats 4000000 in
theorem N_within_2 {p : Program} {l : Launch} {e : Env} {s : State} {m : MethodId} {args : Array Value} {below : List Frame} {meth : Method} {c : Code} {D : mD} {mb : Nat}  {n : Nat} {x2 : Int32} {x3 : Int32} {σ : mS} {ls : Array Slot} {r : Int32} (X : mX p s m args meth c cX12_within 4 (some .boolean) D) (hP : mP D mb σ s.heap)  (hl : lv_has ls 4 [(0, .ref mb), (2, .int x2), (3, .int x3)]) (h : f_within_2  n x2 x3 σ = some r) : mWr p l e 0 0 s m args below meth c (some (.int r)) (F0 m 2 ls []) := by
  have hx := X.1
  have hb := X.2.1
  have hown := X.2.2.2.1
  have hts := X.2.2.2.2.1
  induction n generalizing x2 x3 ls with
  | zero => exact absurd (show none = some r from h) (by simp)
  | succ n ih =>
    have h : (if x3 < (0:Int32) then (f_within_39 (x2) (x3) σ) else (if x3 = x2 then (f_within_39 (x2) (x3) σ) else ((rd σ 6 x3).bind (fun v1 => if v1 < (0:Int32) then ((rd σ 7 x3).bind (fun v2 => f_within_35 (fun z0 z1 => f_within_2 n z0 z1 σ) (x2) (v2) σ)) else ((rd σ 6 x3).bind (fun v3 => f_within_35 (fun z0 z1 => f_within_2 n z0 z1 σ) (x2) (v3) σ)))))) = some r := h
    refine lv_iload_n hx hb dX12_within_2 rfl (lv_at hl 2 rfl) ?_
    refine lv_if_lt (tgt := 39) hx hb dX12_within_3 rfl (fun hc => ?_) (fun hc => ?_)
    · have h := ip hc h
      exact N_within_39 X hP (lv_sub hl [0, 1, 2] rfl) h
    · have h := ine hc h
      refine lv_iload_n hx hb dX12_within_6 rfl (lv_at hl 2 rfl) ?_
      refine lv_iload_n hx hb dX12_within_7 rfl (lv_at hl 1 rfl) ?_
      refine lv_icmp_eq (tgt := 39) hx hb dX12_within_8 rfl (fun hc => ?_) (fun hc => ?_)
      · have h := ip hc h
        exact N_within_39 X hP (lv_sub hl [0, 1, 2] rfl) h
      · have h := ine hc h
        refine lv_aload_n hx hb dX12_within_11 rfl (lv_at hl 0 rfl) ?_
        refine mg_parent X hP dX12_within_12 ?_
        refine lv_iload_n hx hb dX12_within_15 rfl (lv_at hl 2 rfl) ?_
        obtain ⟨v1, hv1, h⟩ := ob h
        refine m_ald X hP hv1 dX12_within_16 ?_
        refine lv_if_lt (tgt := 29) hx hb dX12_within_17 rfl (fun hc => ?_) (fun hc => ?_)
        · have h := ip hc h
          refine lv_aload_n hx hb dX12_within_29 rfl (lv_at hl 0 rfl) ?_
          refine mg_host X hP dX12_within_30 ?_
          refine lv_iload_n hx hb dX12_within_33 rfl (lv_at hl 2 rfl) ?_
          obtain ⟨v2, hv2, h⟩ := ob h
          refine m_ald X hP hv2 dX12_within_34 ?_
          exact N_within_35 X hP ih (lv_sub hl [0, 1] rfl) h
        · have h := ine hc h
          refine lv_aload_n hx hb dX12_within_20 rfl (lv_at hl 0 rfl) ?_
          refine mg_parent X hP dX12_within_21 ?_
          refine lv_iload_n hx hb dX12_within_24 rfl (lv_at hl 2 rfl) ?_
          obtain ⟨v3, hv3, h⟩ := ob h
          refine m_ald X hP hv3 dX12_within_25 ?_
          refine lv_goto (tgt := 35) hx hb dX12_within_26 rfl ?_
          exact N_within_35 X hP ih (lv_sub hl [0, 1] rfl) h
set_option maxRecDepth 20000 in
set_option maxHeartbeats 4000000 in
theorem K_within (l : Launch) (D : mD) (mb : Nat) (σ : mS) (x1 : Int32) (x2 : Int32) {r : Int32} (h : f_within x1 x2 σ = some r) : Met l yX12_within (Cond.code yX12_within cX12_within 4 (some .boolean) :: BG) (rM 0 0) (mPc D mb σ [.int x1, .int x2]) (mQr (some (.int r))) 0 0 (fun _ => False) := by
  refine Met.ofW (cc := cX12_within) (maxL := 4) (ret := (some .boolean)) (by decide) rfl ?_
  intro p e s m args below meth c s₁ B hml hv
  obtain ⟨rfl, hP, hK⟩ := hv
  have X := mX_of B hml rfl hK
  have hx := X.1
  have hb := X.2.1
  have hown := X.2.2.2.1
  have hts := X.2.2.2.2.1
  have hl := lv_entry (.ref mb :: [.int x1, .int x2]) (n := 4) (Nat.le_of_ble_eq_true rfl)
  rw [lg_entry_eq]
  generalize (lg_sl (.ref mb :: [.int x1, .int x2]) ++ List.replicate (4 - (lg_sl (.ref mb :: [.int x1, .int x2])).length) Slot.unset).toArray = ls at hl ⊢
  have hl : lv_has ls 4 [(0, .ref mb), (1, .int x1), (2, .int x2)] := hl
  show mWr p l e 0 0 s m (Value.ref mb :: [.int x1, .int x2]).toArray below meth c (some (.int r)) (F0 m 0 ls [])
  have h : (f_within_2 4000 (x2) (x1) σ) = some r := h
  refine lv_iload_n hx hb dX12_within_0 rfl (lv_at hl 1 rfl) ?_
  refine lv_istore_n hx hb dX12_within_1 rfl hl (Nat.le_of_ble_eq_true rfl) rfl (fun ls (hl : lv_has ls 4 [(3, .int x1), (0, .ref mb), (1, .int x1), (2, .int x2)]) => ?_)
  exact N_within_2 X hP (lv_sub hl [1, 3, 0] rfl) h
theorem cl_within {p : Program} {l : Launch} {e : Env} {s : State} {m : MethodId} {args : Array Value} {below : List Frame} {meth : Method} {c : Code} {D : mD} {mb : Nat} {H : Heap} {locs : List Loc} {Q : State → Prop} {cc : ByteArray} {pc fR lR nL : Nat} {ls : Array Slot} {rest : List Value} {ret : Option FieldType} {σ : mS} (X : mX p s m args meth c cc nL ret D) (hP : mP D mb σ H) {x1 : Int32} {x2 : Int32} {r : Int32} (h : f_within x1 x2 σ = some r) (hr : 0 + 1 ≤ fR ∧ 8 + (4 + 11) + 0 ≤ lR) (hl : ls.size = nL) (hW : (rest.map fun v => v.category).sum ≤ 8) (hdg : decode cc pc = .ok (.invokevirtual 518, 3)) (kk : W p l e (rM fR lR) s m args below meth c H locs 0 0 Q (F0 m (pc + 3) ls (.int r :: rest))) : W p l e (rM fR lR) s m args below meth c H locs 0 0 Q (F0 m pc ls (.int x2 :: .int x1 :: .ref mb :: rest)) := m_cr (m_run (n := 2) X (K_within l D mb σ x1 x2 h) ⟨w_1890, w_1892, w_66, w_1893⟩ (hyX rfl (by decide +kernel)) rfl hr hP hl hW hdg rfl) kk
-- loose(I)Z
def f_loose_27  (y0 : Int32) (σ : mS) : Option (Int32) := rz y0
def f_loose_26   (σ : mS) : Option (Int32) := f_loose_27 ((0:Int32)) σ
def f_loose (x1 : Int32) (σ : mS) : Option (Int32) := if x1 = (0:Int32) then (f_loose_26 σ) else ((rd σ 6 x1).bind (fun v1 => if (0:Int32) ≤ v1 then (f_loose_26 σ) else ((rd σ 7 x1).bind (fun v2 => if (0:Int32) ≤ v2 then (f_loose_26 σ) else (f_loose_27 ((1:Int32)) σ)))))
set_option maxRecDepth 20000 in
set_option maxHeartbeats 4000000 in
theorem N_loose_27 {p : Program} {l : Launch} {e : Env} {s : State} {m : MethodId} {args : Array Value} {below : List Frame} {meth : Method} {c : Code} {D : mD} {mb : Nat}   {y0 : Int32} {σ : mS} {ls : Array Slot} {r : Int32} (X : mX p s m args meth c cX12_loose 2 (some .boolean) D) (hP : mP D mb σ s.heap)  (hl : lv_has ls 2 [(0, .ref mb)]) (h : f_loose_27  y0 σ = some r) : mWr p l e 0 0 s m args below meth c (some (.int r)) (F0 m 27 ls [.int y0]) := by
  have hx := X.1
  have hb := X.2.1
  have hown := X.2.2.2.1
  have hts := X.2.2.2.2.1
  have h : (rz y0) = some r := h
  obtain ⟨hz, rfl⟩ := rz_spec h
  exact m_rz X hz dX12_loose_27
set_option maxRecDepth 20000 in
set_option maxHeartbeats 4000000 in
theorem N_loose_26 {p : Program} {l : Launch} {e : Env} {s : State} {m : MethodId} {args : Array Value} {below : List Frame} {meth : Method} {c : Code} {D : mD} {mb : Nat}    {σ : mS} {ls : Array Slot} {r : Int32} (X : mX p s m args meth c cX12_loose 2 (some .boolean) D) (hP : mP D mb σ s.heap)  (hl : lv_has ls 2 [(0, .ref mb)]) (h : f_loose_26   σ = some r) : mWr p l e 0 0 s m args below meth c (some (.int r)) (F0 m 26 ls []) := by
  have hx := X.1
  have hb := X.2.1
  have hown := X.2.2.2.1
  have hts := X.2.2.2.2.1
  have h : (f_loose_27 ((0:Int32)) σ) = some r := h
  refine lv_iconst (v := (0:Int32)) hx hb dX12_loose_26 (by decide) ?_
  exact N_loose_27 X hP (lv_sub hl [0] rfl) h
set_option maxRecDepth 20000 in
set_option maxHeartbeats 4000000 in
theorem K_loose (l : Launch) (D : mD) (mb : Nat) (σ : mS) (x1 : Int32) {r : Int32} (h : f_loose x1 σ = some r) : Met l yX12_loose (Cond.code yX12_loose cX12_loose 2 (some .boolean) :: BG) (rM 0 0) (mPc D mb σ [.int x1]) (mQr (some (.int r))) 0 0 (fun _ => False) := by
  refine Met.ofW (cc := cX12_loose) (maxL := 2) (ret := (some .boolean)) (by decide) rfl ?_
  intro p e s m args below meth c s₁ B hml hv
  obtain ⟨rfl, hP, hK⟩ := hv
  have X := mX_of B hml rfl hK
  have hx := X.1
  have hb := X.2.1
  have hown := X.2.2.2.1
  have hts := X.2.2.2.2.1
  have hl := lv_entry (.ref mb :: [.int x1]) (n := 2) (Nat.le_of_ble_eq_true rfl)
  rw [lg_entry_eq]
  generalize (lg_sl (.ref mb :: [.int x1]) ++ List.replicate (2 - (lg_sl (.ref mb :: [.int x1])).length) Slot.unset).toArray = ls at hl ⊢
  have hl : lv_has ls 2 [(0, .ref mb), (1, .int x1)] := hl
  show mWr p l e 0 0 s m (Value.ref mb :: [.int x1]).toArray below meth c (some (.int r)) (F0 m 0 ls [])
  have h : (if x1 = (0:Int32) then (f_loose_26 σ) else ((rd σ 6 x1).bind (fun v1 => if (0:Int32) ≤ v1 then (f_loose_26 σ) else ((rd σ 7 x1).bind (fun v2 => if (0:Int32) ≤ v2 then (f_loose_26 σ) else (f_loose_27 ((1:Int32)) σ)))))) = some r := h
  refine lv_iload_n hx hb dX12_loose_0 rfl (lv_at hl 1 rfl) ?_
  refine lv_if_eq (tgt := 26) hx hb dX12_loose_1 rfl (fun hc => ?_) (fun hc => ?_)
  · have h := ip hc h
    exact N_loose_26 X hP (lv_sub hl [0] rfl) h
  · have h := ine hc h
    refine lv_aload_n hx hb dX12_loose_4 rfl (lv_at hl 0 rfl) ?_
    refine mg_parent X hP dX12_loose_5 ?_
    refine lv_iload_n hx hb dX12_loose_8 rfl (lv_at hl 1 rfl) ?_
    obtain ⟨v1, hv1, h⟩ := ob h
    refine m_ald X hP hv1 dX12_loose_9 ?_
    refine lv_if_ge (tgt := 26) hx hb dX12_loose_10 rfl (fun hc => ?_) (fun hc => ?_)
    · have h := ip hc h
      exact N_loose_26 X hP (lv_sub hl [0] rfl) h
    · have h := ine hc h
      refine lv_aload_n hx hb dX12_loose_13 rfl (lv_at hl 0 rfl) ?_
      refine mg_host X hP dX12_loose_14 ?_
      refine lv_iload_n hx hb dX12_loose_17 rfl (lv_at hl 1 rfl) ?_
      obtain ⟨v2, hv2, h⟩ := ob h
      refine m_ald X hP hv2 dX12_loose_18 ?_
      refine lv_if_ge (tgt := 26) hx hb dX12_loose_19 rfl (fun hc => ?_) (fun hc => ?_)
      · have h := ip hc h
        exact N_loose_26 X hP (lv_sub hl [0] rfl) h
      · have h := ine hc h
        refine lv_iconst (v := (1:Int32)) hx hb dX12_loose_22 (by decide) ?_
        refine lv_goto (tgt := 27) hx hb dX12_loose_23 rfl ?_
        exact N_loose_27 X hP (lv_sub hl [0] rfl) h
theorem cl_loose {p : Program} {l : Launch} {e : Env} {s : State} {m : MethodId} {args : Array Value} {below : List Frame} {meth : Method} {c : Code} {D : mD} {mb : Nat} {H : Heap} {locs : List Loc} {Q : State → Prop} {cc : ByteArray} {pc fR lR nL : Nat} {ls : Array Slot} {rest : List Value} {ret : Option FieldType} {σ : mS} (X : mX p s m args meth c cc nL ret D) (hP : mP D mb σ H) {x1 : Int32} {r : Int32} (h : f_loose x1 σ = some r) (hr : 0 + 1 ≤ fR ∧ 8 + (2 + 11) + 0 ≤ lR) (hl : ls.size = nL) (hW : (rest.map fun v => v.category).sum ≤ 8) (hdg : decode cc pc = .ok (.invokevirtual 515, 3)) (kk : W p l e (rM fR lR) s m args below meth c H locs 0 0 Q (F0 m (pc + 3) ls (.int r :: rest))) : W p l e (rM fR lR) s m args below meth c H locs 0 0 Q (F0 m pc ls (.int x1 :: .ref mb :: rest)) := m_cr (m_run (n := 1) X (K_loose l D mb σ x1 h) ⟨w_1886, w_1888, w_65, w_1889⟩ (hyX rfl (by decide +kernel)) rfl hr hP hl hW hdg rfl) kk
-- put(III)V
def f_put_171   (σ : mS) : Option (mS) := some σ
def f_put_84  : Nat → Int32 → Int32 → Int32 → Int32 → mS → Option (mS)
  | 0, _, _, _, _, _ => none
  | n + 1, x1, x2, x3, x5, σ => if x5 ≤ x3 then ((wr σ 9 (((30:Int32) * x2) + x3) x1).bind (fun s1 => (rd s1 10 x2).bind (fun v2 => (wr s1 10 x2 (v2 + (1:Int32))).bind (fun s3 => (wr s3 6 x1 x2).bind (fun s4 => (f_markWith (x1) s4).bind (fun v5 => (f_sibling (x1) v5).bind (fun v6 => (f_treeOf (x1) v5).bind (fun v7 => (f_markPlace (v6) (x2) (v7) v5).bind (fun v8 => f_put_171 v8))))))))) else ((rd σ 9 ((((30:Int32) * x2) + x5) - (1:Int32))).bind (fun v9 => (wr σ 9 (((30:Int32) * x2) + x5) v9).bind (fun s10 => f_put_84 n (x1) (x2) (x3) ((x5 + ((-1):Int32))) s10)))
def f_put_70  (x1 : Int32) (x2 : Int32) (x3 : Int32) (y1 : Int32) (σ : mS) : Option (mS) := (f_holds (y1) σ).bind (fun v1 => if v1.1 = (0:Int32) then ((rd v1.2 10 x2).bind (fun v2 => f_put_84 4000 (x1) (x2) (x3) (v2) v1.2)) else (f_put_171 v1.2))
def f_put_65  (x1 : Int32) (x2 : Int32) (x3 : Int32) (σ : mS) : Option (mS) := f_put_70 (x1) (x2) (x3) ((2:Int32)) σ
def f_put_36  (x1 : Int32) (x2 : Int32) (x3 : Int32) (y0 : Int32) (σ : mS) : Option (mS) := if y0 = (0:Int32) then (f_put_70 (x1) (x2) (x3) ((1:Int32)) σ) else ((f_loose (x1) σ).bind (fun v1 => if v1 = (0:Int32) then (f_put_65 (x1) (x2) (x3) σ) else ((f_within (x2) (x1) σ).bind (fun v2 => if v2 = (0:Int32) then (f_put_70 (x1) (x2) (x3) ((0:Int32)) σ) else (f_put_65 (x1) (x2) (x3) σ)))))
def f_put_35  (x1 : Int32) (x2 : Int32) (x3 : Int32) (σ : mS) : Option (mS) := f_put_36 (x1) (x2) (x3) ((0:Int32)) σ
def f_put (x1 : Int32) (x2 : Int32) (x3 : Int32) (σ : mS) : Option (mS) := (f_isElement (x1) σ).bind (fun v1 => if v1 = (0:Int32) then (f_put_35 (x1) (x2) (x3) σ) else ((f_isElement (x2) σ).bind (fun v2 => if v2 = (0:Int32) then (f_put_35 (x1) (x2) (x3) σ) else ((rd σ 10 x2).bind (fun v3 => (f_in (x3) ((0:Int32)) (v3)).bind (fun v4 => if v4 = (0:Int32) then (f_put_35 (x1) (x2) (x3) σ) else (f_put_36 (x1) (x2) (x3) ((1:Int32)) σ)))))))
set_option maxRecDepth 20000 in
set_option maxHeartbeats 4000000 in
theorem N_put_171 {p : Program} {l : Launch} {e : Env} {s : State} {m : MethodId} {args : Array Value} {below : List Frame} {meth : Method} {c : Code} {D : mD} {mb : Nat}    {σ : mS} {H : Heap} {locs : List Loc} {ls : Array Slot} {q : mS} (X : mX p s m args meth c cX12_put 6 none D) (hP : mP D mb σ H) (hF : mF mb s.heap H locs)  (hl : lv_has ls 6 [(0, .ref mb)]) (h : f_put_171   σ = some q) : mWw p l e 9 205 s m args below meth c D mb q none H locs (F0 m 171 ls []) := by
  have hx := X.1
  have hb := X.2.1
  have hown := X.2.2.2.1
  have hts := X.2.2.2.2.1
  have h : (some σ) = some q := h
  obtain rfl := sj h
  exact m_wv X hP hF dX12_put_171
set_option maxRecDepth 20000 in
set_option maxHeartbeats 4000000 in
theorem N_put_84 {p : Program} {l : Launch} {e : Env} {s : State} {m : MethodId} {args : Array Value} {below : List Frame} {meth : Method} {c : Code} {D : mD} {mb : Nat}  {n : Nat} {x1 : Int32} {x2 : Int32} {x3 : Int32} {x5 : Int32} {σ : mS} {H : Heap} {locs : List Loc} {ls : Array Slot} {q : mS} (X : mX p s m args meth c cX12_put 6 none D) (hP : mP D mb σ H) (hF : mF mb s.heap H locs)  (hl : lv_has ls 6 [(0, .ref mb), (1, .int x1), (2, .int x2), (3, .int x3), (5, .int x5)]) (h : f_put_84  n x1 x2 x3 x5 σ = some q) : mWw p l e 9 205 s m args below meth c D mb q none H locs (F0 m 84 ls []) := by
  have hx := X.1
  have hb := X.2.1
  have hown := X.2.2.2.1
  have hts := X.2.2.2.2.1
  induction n generalizing x1 x2 x3 x5 σ H locs ls with
  | zero => exact absurd (show none = some q from h) (by simp)
  | succ n ih =>
    have h : (if x5 ≤ x3 then ((wr σ 9 (((30:Int32) * x2) + x3) x1).bind (fun s1 => (rd s1 10 x2).bind (fun v2 => (wr s1 10 x2 (v2 + (1:Int32))).bind (fun s3 => (wr s3 6 x1 x2).bind (fun s4 => (f_markWith (x1) s4).bind (fun v5 => (f_sibling (x1) v5).bind (fun v6 => (f_treeOf (x1) v5).bind (fun v7 => (f_markPlace (v6) (x2) (v7) v5).bind (fun v8 => f_put_171 v8))))))))) else ((rd σ 9 ((((30:Int32) * x2) + x5) - (1:Int32))).bind (fun v9 => (wr σ 9 (((30:Int32) * x2) + x5) v9).bind (fun s10 => f_put_84 n (x1) (x2) (x3) ((x5 + ((-1):Int32))) s10)))) = some q := h
    refine lv_iload hx hb dX12_put_84 (lv_at hl 4 rfl) ?_
    refine lv_iload_n hx hb dX12_put_86 rfl (lv_at hl 3 rfl) ?_
    refine lv_icmp_le (tgt := 122) hx hb dX12_put_87 rfl (fun hc => ?_) (fun hc => ?_)
    · have h := ip hc h
      refine lv_aload_n hx hb dX12_put_122 rfl (lv_at hl 0 rfl) ?_
      refine mg_kid X hP dX12_put_123 ?_
      refine lv_bipush (v := (30:Int32)) hx hb dX12_put_126 (by decide) ?_
      refine lv_iload_n hx hb dX12_put_128 rfl (lv_at hl 2 rfl) ?_
      refine lv_imul hx hb dX12_put_129 ?_
      refine lv_iload_n hx hb dX12_put_130 rfl (lv_at hl 3 rfl) ?_
      refine lv_iadd hx hb dX12_put_131 ?_
      refine lv_iload_n hx hb dX12_put_132 rfl (lv_at hl 1 rfl) ?_
      obtain ⟨s1, hs1, h⟩ := ob h
      refine m_ast X hP hF hs1 dX12_put_133 (fun H locs hP hF => ?_)
      refine lv_aload_n hx hb dX12_put_134 rfl (lv_at hl 0 rfl) ?_
      refine mg_kids X hP dX12_put_135 ?_
      refine lv_iload_n hx hb dX12_put_138 rfl (lv_at hl 2 rfl) ?_
      refine lv_dup2_11 hx hb dX12_put_139 rfl rfl ?_
      obtain ⟨v2, hv2, h⟩ := ob h
      refine m_ald X hP hv2 dX12_put_140 ?_
      refine lv_iconst (v := (1:Int32)) hx hb dX12_put_141 (by decide) ?_
      refine lv_iadd hx hb dX12_put_142 ?_
      obtain ⟨s3, hs3, h⟩ := ob h
      refine m_ast X hP hF hs3 dX12_put_143 (fun H locs hP hF => ?_)
      refine lv_aload_n hx hb dX12_put_144 rfl (lv_at hl 0 rfl) ?_
      refine mg_parent X hP dX12_put_145 ?_
      refine lv_iload_n hx hb dX12_put_148 rfl (lv_at hl 1 rfl) ?_
      refine lv_iload_n hx hb dX12_put_149 rfl (lv_at hl 2 rfl) ?_
      obtain ⟨s4, hs4, h⟩ := ob h
      refine m_ast X hP hF hs4 dX12_put_150 (fun H locs hP hF => ?_)
      refine lv_aload_n hx hb dX12_put_151 rfl (lv_at hl 0 rfl) ?_
      refine lv_iload_n hx hb dX12_put_152 rfl (lv_at hl 1 rfl) ?_
      obtain ⟨v5, hv5, h⟩ := ob h
      refine cl_markWith X hP hF hv5 ⟨Nat.le_of_ble_eq_true rfl, Nat.le_of_ble_eq_true rfl⟩ hl.1 (Nat.le_of_ble_eq_true rfl) dX12_put_153 (fun H locs hP hF => ?_)
      refine lv_aload_n hx hb dX12_put_156 rfl (lv_at hl 0 rfl) ?_
      refine lv_aload_n hx hb dX12_put_157 rfl (lv_at hl 0 rfl) ?_
      refine lv_iload_n hx hb dX12_put_158 rfl (lv_at hl 1 rfl) ?_
      obtain ⟨v6, hv6, h⟩ := ob h
      refine cl_sibling X hP hv6 ⟨Nat.le_of_ble_eq_true rfl, Nat.le_of_ble_eq_true rfl⟩ hl.1 (Nat.le_of_ble_eq_true rfl) dX12_put_159 ?_
      refine lv_iload_n hx hb dX12_put_162 rfl (lv_at hl 2 rfl) ?_
      refine lv_aload_n hx hb dX12_put_163 rfl (lv_at hl 0 rfl) ?_
      refine lv_iload_n hx hb dX12_put_164 rfl (lv_at hl 1 rfl) ?_
      obtain ⟨v7, hv7, h⟩ := ob h
      refine cl_treeOf X hP hv7 ⟨Nat.le_of_ble_eq_true rfl, Nat.le_of_ble_eq_true rfl⟩ hl.1 (Nat.le_of_ble_eq_true rfl) dX12_put_165 ?_
      obtain ⟨v8, hv8, h⟩ := ob h
      refine cl_markPlace X hP hF hv8 ⟨Nat.le_of_ble_eq_true rfl, Nat.le_of_ble_eq_true rfl⟩ hl.1 (Nat.le_of_ble_eq_true rfl) dX12_put_168 (fun H locs hP hF => ?_)
      exact N_put_171 X hP hF (lv_sub hl [0] rfl) h
    · have h := ine hc h
      refine lv_aload_n hx hb dX12_put_90 rfl (lv_at hl 0 rfl) ?_
      refine mg_kid X hP dX12_put_91 ?_
      refine lv_bipush (v := (30:Int32)) hx hb dX12_put_94 (by decide) ?_
      refine lv_iload_n hx hb dX12_put_96 rfl (lv_at hl 2 rfl) ?_
      refine lv_imul hx hb dX12_put_97 ?_
      refine lv_iload hx hb dX12_put_98 (lv_at hl 4 rfl) ?_
      refine lv_iadd hx hb dX12_put_100 ?_
      refine lv_aload_n hx hb dX12_put_101 rfl (lv_at hl 0 rfl) ?_
      refine mg_kid X hP dX12_put_102 ?_
      refine lv_bipush (v := (30:Int32)) hx hb dX12_put_105 (by decide) ?_
      refine lv_iload_n hx hb dX12_put_107 rfl (lv_at hl 2 rfl) ?_
      refine lv_imul hx hb dX12_put_108 ?_
      refine lv_iload hx hb dX12_put_109 (lv_at hl 4 rfl) ?_
      refine lv_iadd hx hb dX12_put_111 ?_
      refine lv_iconst (v := (1:Int32)) hx hb dX12_put_112 (by decide) ?_
      refine lv_isub hx hb dX12_put_113 ?_
      obtain ⟨v9, hv9, h⟩ := ob h
      refine m_ald X hP hv9 dX12_put_114 ?_
      obtain ⟨s10, hs10, h⟩ := ob h
      refine m_ast X hP hF hs10 dX12_put_115 (fun H locs hP hF => ?_)
      refine lv_iinc (v := (x5 + ((-1):Int32))) hx hb dX12_put_116 hl (k := 4) rfl rfl (Nat.le_of_ble_eq_true rfl) rfl (fun ls (hl : lv_has ls 6 [(5, .int (x5 + ((-1):Int32))), (0, .ref mb), (1, .int x1), (2, .int x2), (3, .int x3)]) => ?_)
      refine lv_goto (tgt := 84) hx hb dX12_put_119 rfl ?_
      exact ih hP hF (lv_sub hl [1, 2, 3, 4, 0] rfl) h
set_option maxRecDepth 20000 in
set_option maxHeartbeats 4000000 in
theorem N_put_70 {p : Program} {l : Launch} {e : Env} {s : State} {m : MethodId} {args : Array Value} {below : List Frame} {meth : Method} {c : Code} {D : mD} {mb : Nat}   {x1 : Int32} {x2 : Int32} {x3 : Int32} {y1 : Int32} {σ : mS} {H : Heap} {locs : List Loc} {ls : Array Slot} {q : mS} (X : mX p s m args meth c cX12_put 6 none D) (hP : mP D mb σ H) (hF : mF mb s.heap H locs)  (hl : lv_has ls 6 [(0, .ref mb), (1, .int x1), (2, .int x2), (3, .int x3)]) (h : f_put_70  x1 x2 x3 y1 σ = some q) : mWw p l e 9 205 s m args below meth c D mb q none H locs (F0 m 70 ls [.int y1, .ref mb]) := by
  have hx := X.1
  have hb := X.2.1
  have hown := X.2.2.2.1
  have hts := X.2.2.2.2.1
  have h : ((f_holds (y1) σ).bind (fun v1 => if v1.1 = (0:Int32) then ((rd v1.2 10 x2).bind (fun v2 => f_put_84 4000 (x1) (x2) (x3) (v2) v1.2)) else (f_put_171 v1.2))) = some q := h
  obtain ⟨v1, hv1, h⟩ := ob h
  refine cl_holds X hP hF hv1 ⟨Nat.le_of_ble_eq_true rfl, Nat.le_of_ble_eq_true rfl⟩ hl.1 (Nat.le_of_ble_eq_true rfl) dX12_put_70 (fun H locs hP hF => ?_)
  refine lv_if_ne (tgt := 171) hx hb dX12_put_73 rfl (fun hc => ?_) (fun hc => ?_)
  · have h := ine hc h
    exact N_put_171 X hP hF (lv_sub hl [0] rfl) h
  · have h := ip hc h
    refine lv_aload_n hx hb dX12_put_76 rfl (lv_at hl 0 rfl) ?_
    refine mg_kids X hP dX12_put_77 ?_
    refine lv_iload_n hx hb dX12_put_80 rfl (lv_at hl 2 rfl) ?_
    obtain ⟨v2, hv2, h⟩ := ob h
    refine m_ald X hP hv2 dX12_put_81 ?_
    refine lv_istore hx hb dX12_put_82 hl (Nat.le_of_ble_eq_true rfl) rfl (fun ls (hl : lv_has ls 6 [(5, .int v2), (0, .ref mb), (1, .int x1), (2, .int x2), (3, .int x3)]) => ?_)
    exact N_put_84 X hP hF (lv_sub hl [1, 2, 3, 4, 0] rfl) h
set_option maxRecDepth 20000 in
set_option maxHeartbeats 4000000 in
theorem N_put_65 {p : Program} {l : Launch} {e : Env} {s : State} {m : MethodId} {args : Array Value} {below : List Frame} {meth : Method} {c : Code} {D : mD} {mb : Nat}   {x1 : Int32} {x2 : Int32} {x3 : Int32} {σ : mS} {H : Heap} {locs : List Loc} {ls : Array Slot} {q : mS} (X : mX p s m args meth c cX12_put 6 none D) (hP : mP D mb σ H) (hF : mF mb s.heap H locs)  (hl : lv_has ls 6 [(0, .ref mb), (1, .int x1), (2, .int x2), (3, .int x3)]) (h : f_put_65  x1 x2 x3 σ = some q) : mWw p l e 9 205 s m args below meth c D mb q none H locs (F0 m 65 ls [.ref mb]) := by
  have hx := X.1
  have hb := X.2.1
  have hown := X.2.2.2.1
  have hts := X.2.2.2.2.1
  have h : (f_put_70 (x1) (x2) (x3) ((2:Int32)) σ) = some q := h
  refine lv_iconst (v := (2:Int32)) hx hb dX12_put_65 (by decide) ?_
  refine lv_goto (tgt := 70) hx hb dX12_put_66 rfl ?_
  exact N_put_70 X hP hF (lv_sub hl [0, 1, 2, 3] rfl) h
set_option maxRecDepth 20000 in
set_option maxHeartbeats 4000000 in
theorem N_put_36 {p : Program} {l : Launch} {e : Env} {s : State} {m : MethodId} {args : Array Value} {below : List Frame} {meth : Method} {c : Code} {D : mD} {mb : Nat}   {x1 : Int32} {x2 : Int32} {x3 : Int32} {y0 : Int32} {σ : mS} {H : Heap} {locs : List Loc} {ls : Array Slot} {q : mS} (X : mX p s m args meth c cX12_put 6 none D) (hP : mP D mb σ H) (hF : mF mb s.heap H locs)  (hl : lv_has ls 6 [(0, .ref mb), (1, .int x1), (2, .int x2), (3, .int x3)]) (h : f_put_36  x1 x2 x3 y0 σ = some q) : mWw p l e 9 205 s m args below meth c D mb q none H locs (F0 m 36 ls [.int y0]) := by
  have hx := X.1
  have hb := X.2.1
  have hown := X.2.2.2.1
  have hts := X.2.2.2.2.1
  have h : (if y0 = (0:Int32) then (f_put_70 (x1) (x2) (x3) ((1:Int32)) σ) else ((f_loose (x1) σ).bind (fun v1 => if v1 = (0:Int32) then (f_put_65 (x1) (x2) (x3) σ) else ((f_within (x2) (x1) σ).bind (fun v2 => if v2 = (0:Int32) then (f_put_70 (x1) (x2) (x3) ((0:Int32)) σ) else (f_put_65 (x1) (x2) (x3) σ)))))) = some q := h
  refine lv_istore hx hb dX12_put_36 hl (Nat.le_of_ble_eq_true rfl) rfl (fun ls (hl : lv_has ls 6 [(4, .int y0), (0, .ref mb), (1, .int x1), (2, .int x2), (3, .int x3)]) => ?_)
  refine lv_aload_n hx hb dX12_put_38 rfl (lv_at hl 1 rfl) ?_
  refine lv_iload hx hb dX12_put_39 (lv_at hl 0 rfl) ?_
  refine lv_if_ne (tgt := 48) hx hb dX12_put_41 rfl (fun hc => ?_) (fun hc => ?_)
  · have h := ine hc h
    refine lv_aload_n hx hb dX12_put_48 rfl (lv_at hl 1 rfl) ?_
    refine lv_iload_n hx hb dX12_put_49 rfl (lv_at hl 2 rfl) ?_
    obtain ⟨v1, hv1, h⟩ := ob h
    refine cl_loose X hP hv1 ⟨Nat.le_of_ble_eq_true rfl, Nat.le_of_ble_eq_true rfl⟩ hl.1 (Nat.le_of_ble_eq_true rfl) dX12_put_50 ?_
    refine lv_if_eq (tgt := 65) hx hb dX12_put_53 rfl (fun hc => ?_) (fun hc => ?_)
    · have h := ip hc h
      exact N_put_65 X hP hF (lv_sub hl [1, 2, 3, 4] rfl) h
    · have h := ine hc h
      refine lv_aload_n hx hb dX12_put_56 rfl (lv_at hl 1 rfl) ?_
      refine lv_iload_n hx hb dX12_put_57 rfl (lv_at hl 3 rfl) ?_
      refine lv_iload_n hx hb dX12_put_58 rfl (lv_at hl 2 rfl) ?_
      obtain ⟨v2, hv2, h⟩ := ob h
      refine cl_within X hP hv2 ⟨Nat.le_of_ble_eq_true rfl, Nat.le_of_ble_eq_true rfl⟩ hl.1 (Nat.le_of_ble_eq_true rfl) dX12_put_59 ?_
      refine lv_if_eq (tgt := 69) hx hb dX12_put_62 rfl (fun hc => ?_) (fun hc => ?_)
      · have h := ip hc h
        refine lv_iconst (v := (0:Int32)) hx hb dX12_put_69 (by decide) ?_
        exact N_put_70 X hP hF (lv_sub hl [1, 2, 3, 4] rfl) h
      · have h := ine hc h
        exact N_put_65 X hP hF (lv_sub hl [1, 2, 3, 4] rfl) h
  · have h := ip hc h
    refine lv_iconst (v := (1:Int32)) hx hb dX12_put_44 (by decide) ?_
    refine lv_goto (tgt := 70) hx hb dX12_put_45 rfl ?_
    exact N_put_70 X hP hF (lv_sub hl [1, 2, 3, 4] rfl) h
set_option maxRecDepth 20000 in
set_option maxHeartbeats 4000000 in
theorem N_put_35 {p : Program} {l : Launch} {e : Env} {s : State} {m : MethodId} {args : Array Value} {below : List Frame} {meth : Method} {c : Code} {D : mD} {mb : Nat}   {x1 : Int32} {x2 : Int32} {x3 : Int32} {σ : mS} {H : Heap} {locs : List Loc} {ls : Array Slot} {q : mS} (X : mX p s m args meth c cX12_put 6 none D) (hP : mP D mb σ H) (hF : mF mb s.heap H locs)  (hl : lv_has ls 6 [(0, .ref mb), (1, .int x1), (2, .int x2), (3, .int x3)]) (h : f_put_35  x1 x2 x3 σ = some q) : mWw p l e 9 205 s m args below meth c D mb q none H locs (F0 m 35 ls []) := by
  have hx := X.1
  have hb := X.2.1
  have hown := X.2.2.2.1
  have hts := X.2.2.2.2.1
  have h : (f_put_36 (x1) (x2) (x3) ((0:Int32)) σ) = some q := h
  refine lv_iconst (v := (0:Int32)) hx hb dX12_put_35 (by decide) ?_
  exact N_put_36 X hP hF (lv_sub hl [0, 1, 2, 3] rfl) h
set_option maxRecDepth 20000 in
set_option maxHeartbeats 4000000 in
theorem K_put (l : Launch) (D : mD) (mb : Nat) (σ : mS) (x1 : Int32) (x2 : Int32) (x3 : Int32) {q : mS} (h : f_put x1 x2 x3 σ = some q) : Met l yX12_put (Cond.code yX12_put cX12_put 6 none :: BG) (rM 9 205) (mPc D mb σ [.int x1, .int x2, .int x3]) (mQw D mb q none) 0 0 (mReg mb) := by
  refine Met.ofW (cc := cX12_put) (maxL := 6) (ret := none) (by decide) rfl ?_
  intro p e s m args below meth c s₁ B hml hv
  obtain ⟨rfl, hP, hK⟩ := hv
  have X := mX_of B hml rfl hK
  have hx := X.1
  have hb := X.2.1
  have hown := X.2.2.2.1
  have hts := X.2.2.2.2.1
  have hl := lv_entry (.ref mb :: [.int x1, .int x2, .int x3]) (n := 6) (Nat.le_of_ble_eq_true rfl)
  rw [lg_entry_eq]
  generalize (lg_sl (.ref mb :: [.int x1, .int x2, .int x3]) ++ List.replicate (6 - (lg_sl (.ref mb :: [.int x1, .int x2, .int x3])).length) Slot.unset).toArray = ls at hl ⊢
  have hl : lv_has ls 6 [(0, .ref mb), (1, .int x1), (2, .int x2), (3, .int x3)] := hl
  have hF : mF mb s.heap s.heap [] := mF.rf
  show mWw p l e 9 205 s m (Value.ref mb :: [.int x1, .int x2, .int x3]).toArray below meth c D mb q none s.heap [] (F0 m 0 ls [])
  have h : ((f_isElement (x1) σ).bind (fun v1 => if v1 = (0:Int32) then (f_put_35 (x1) (x2) (x3) σ) else ((f_isElement (x2) σ).bind (fun v2 => if v2 = (0:Int32) then (f_put_35 (x1) (x2) (x3) σ) else ((rd σ 10 x2).bind (fun v3 => (f_in (x3) ((0:Int32)) (v3)).bind (fun v4 => if v4 = (0:Int32) then (f_put_35 (x1) (x2) (x3) σ) else (f_put_36 (x1) (x2) (x3) ((1:Int32)) σ)))))))) = some q := h
  refine lv_aload_n hx hb dX12_put_0 rfl (lv_at hl 0 rfl) ?_
  refine lv_iload_n hx hb dX12_put_1 rfl (lv_at hl 1 rfl) ?_
  obtain ⟨v1, hv1, h⟩ := ob h
  refine cl_isElement X hP hv1 ⟨Nat.le_of_ble_eq_true rfl, Nat.le_of_ble_eq_true rfl⟩ hl.1 (Nat.le_of_ble_eq_true rfl) dX12_put_2 ?_
  refine lv_if_eq (tgt := 35) hx hb dX12_put_5 rfl (fun hc => ?_) (fun hc => ?_)
  · have h := ip hc h
    exact N_put_35 X hP hF (lv_sub hl [0, 1, 2, 3] rfl) h
  · have h := ine hc h
    refine lv_aload_n hx hb dX12_put_8 rfl (lv_at hl 0 rfl) ?_
    refine lv_iload_n hx hb dX12_put_9 rfl (lv_at hl 2 rfl) ?_
    obtain ⟨v2, hv2, h⟩ := ob h
    refine cl_isElement X hP hv2 ⟨Nat.le_of_ble_eq_true rfl, Nat.le_of_ble_eq_true rfl⟩ hl.1 (Nat.le_of_ble_eq_true rfl) dX12_put_10 ?_
    refine lv_if_eq (tgt := 35) hx hb dX12_put_13 rfl (fun hc => ?_) (fun hc => ?_)
    · have h := ip hc h
      exact N_put_35 X hP hF (lv_sub hl [0, 1, 2, 3] rfl) h
    · have h := ine hc h
      refine lv_aload_n hx hb dX12_put_16 rfl (lv_at hl 0 rfl) ?_
      refine lv_iload_n hx hb dX12_put_17 rfl (lv_at hl 3 rfl) ?_
      refine lv_iconst (v := (0:Int32)) hx hb dX12_put_18 (by decide) ?_
      refine lv_aload_n hx hb dX12_put_19 rfl (lv_at hl 0 rfl) ?_
      refine mg_kids X hP dX12_put_20 ?_
      refine lv_iload_n hx hb dX12_put_23 rfl (lv_at hl 2 rfl) ?_
      obtain ⟨v3, hv3, h⟩ := ob h
      refine m_ald X hP hv3 dX12_put_24 ?_
      obtain ⟨v4, hv4, h⟩ := ob h
      refine cl_in X hP hv4 ⟨Nat.le_of_ble_eq_true rfl, Nat.le_of_ble_eq_true rfl⟩ hl.1 (Nat.le_of_ble_eq_true rfl) dX12_put_25 ?_
      refine lv_if_eq (tgt := 35) hx hb dX12_put_28 rfl (fun hc => ?_) (fun hc => ?_)
      · have h := ip hc h
        exact N_put_35 X hP hF (lv_sub hl [0, 1, 2, 3] rfl) h
      · have h := ine hc h
        refine lv_iconst (v := (1:Int32)) hx hb dX12_put_31 (by decide) ?_
        refine lv_goto (tgt := 36) hx hb dX12_put_32 rfl ?_
        exact N_put_36 X hP hF (lv_sub hl [0, 1, 2, 3] rfl) h
-- putTop(III)V
def f_putTop_177   (σ : mS) : Option (mS) := some σ
def f_putTop_94  : Nat → Int32 → Int32 → Int32 → Int32 → mS → Option (mS)
  | 0, _, _, _, _, _ => none
  | n + 1, x1, x2, x3, x5, σ => if x5 ≤ x3 then ((wr σ 11 (((30:Int32) * x2) + x3) x1).bind (fun s1 => (rd s1 12 x2).bind (fun v2 => (wr s1 12 x2 (v2 + (1:Int32))).bind (fun s3 => (wr s3 7 x1 x2).bind (fun s4 => (f_markWith (x1) s4).bind (fun v5 => (f_sibling (x1) v5).bind (fun v6 => (f_markPlace (v6) (((-1):Int32)) (x2) v5).bind (fun v7 => f_putTop_177 v7)))))))) else ((rd σ 11 ((((30:Int32) * x2) + x5) - (1:Int32))).bind (fun v8 => (wr σ 11 (((30:Int32) * x2) + x5) v8).bind (fun s9 => f_putTop_94 n (x1) (x2) (x3) ((x5 + ((-1):Int32))) s9)))
def f_putTop_80  (x1 : Int32) (x2 : Int32) (x3 : Int32) (y1 : Int32) (σ : mS) : Option (mS) := (f_holds (y1) σ).bind (fun v1 => if v1.1 = (0:Int32) then ((rd v1.2 12 x2).bind (fun v2 => f_putTop_94 4000 (x1) (x2) (x3) (v2) v1.2)) else (f_putTop_177 v1.2))
def f_putTop_75  (x1 : Int32) (x2 : Int32) (x3 : Int32) (σ : mS) : Option (mS) := f_putTop_80 (x1) (x2) (x3) ((2:Int32)) σ
def f_putTop_46  (x1 : Int32) (x2 : Int32) (x3 : Int32) (y0 : Int32) (σ : mS) : Option (mS) := if y0 = (0:Int32) then (f_putTop_80 (x1) (x2) (x3) ((1:Int32)) σ) else ((f_loose (x1) σ).bind (fun v1 => if v1 = (0:Int32) then (f_putTop_75 (x1) (x2) (x3) σ) else ((f_within (x2) (x1) σ).bind (fun v2 => if v2 = (0:Int32) then (f_putTop_80 (x1) (x2) (x3) ((0:Int32)) σ) else (f_putTop_75 (x1) (x2) (x3) σ)))))
def f_putTop_45  (x1 : Int32) (x2 : Int32) (x3 : Int32) (σ : mS) : Option (mS) := f_putTop_46 (x1) (x2) (x3) ((0:Int32)) σ
def f_putTop (x1 : Int32) (x2 : Int32) (x3 : Int32) (σ : mS) : Option (mS) := (f_isElement (x1) σ).bind (fun v1 => if v1 = (0:Int32) then (f_putTop_45 (x1) (x2) (x3) σ) else ((f_isElement (x2) σ).bind (fun v2 => if v2 = (0:Int32) then (f_putTop_45 (x1) (x2) (x3) σ) else ((rd σ 8 x2).bind (fun v3 => if v3 = (1:Int32) then ((rd σ 12 x2).bind (fun v4 => (f_in (x3) ((0:Int32)) (v4)).bind (fun v5 => if v5 = (0:Int32) then (f_putTop_45 (x1) (x2) (x3) σ) else (f_putTop_46 (x1) (x2) (x3) ((1:Int32)) σ)))) else (f_putTop_45 (x1) (x2) (x3) σ))))))
set_option maxRecDepth 20000 in
set_option maxHeartbeats 4000000 in
theorem N_putTop_177 {p : Program} {l : Launch} {e : Env} {s : State} {m : MethodId} {args : Array Value} {below : List Frame} {meth : Method} {c : Code} {D : mD} {mb : Nat}    {σ : mS} {H : Heap} {locs : List Loc} {ls : Array Slot} {q : mS} (X : mX p s m args meth c cX12_putTop 6 none D) (hP : mP D mb σ H) (hF : mF mb s.heap H locs)  (hl : lv_has ls 6 [(0, .ref mb)]) (h : f_putTop_177   σ = some q) : mWw p l e 9 205 s m args below meth c D mb q none H locs (F0 m 177 ls []) := by
  have hx := X.1
  have hb := X.2.1
  have hown := X.2.2.2.1
  have hts := X.2.2.2.2.1
  have h : (some σ) = some q := h
  obtain rfl := sj h
  exact m_wv X hP hF dX12_putTop_177
set_option maxRecDepth 20000 in
set_option maxHeartbeats 4000000 in
theorem N_putTop_94 {p : Program} {l : Launch} {e : Env} {s : State} {m : MethodId} {args : Array Value} {below : List Frame} {meth : Method} {c : Code} {D : mD} {mb : Nat}  {n : Nat} {x1 : Int32} {x2 : Int32} {x3 : Int32} {x5 : Int32} {σ : mS} {H : Heap} {locs : List Loc} {ls : Array Slot} {q : mS} (X : mX p s m args meth c cX12_putTop 6 none D) (hP : mP D mb σ H) (hF : mF mb s.heap H locs)  (hl : lv_has ls 6 [(0, .ref mb), (1, .int x1), (2, .int x2), (3, .int x3), (5, .int x5)]) (h : f_putTop_94  n x1 x2 x3 x5 σ = some q) : mWw p l e 9 205 s m args below meth c D mb q none H locs (F0 m 94 ls []) := by
  have hx := X.1
  have hb := X.2.1
  have hown := X.2.2.2.1
  have hts := X.2.2.2.2.1
  induction n generalizing x1 x2 x3 x5 σ H locs ls with
  | zero => exact absurd (show none = some q from h) (by simp)
  | succ n ih =>
    have h : (if x5 ≤ x3 then ((wr σ 11 (((30:Int32) * x2) + x3) x1).bind (fun s1 => (rd s1 12 x2).bind (fun v2 => (wr s1 12 x2 (v2 + (1:Int32))).bind (fun s3 => (wr s3 7 x1 x2).bind (fun s4 => (f_markWith (x1) s4).bind (fun v5 => (f_sibling (x1) v5).bind (fun v6 => (f_markPlace (v6) (((-1):Int32)) (x2) v5).bind (fun v7 => f_putTop_177 v7)))))))) else ((rd σ 11 ((((30:Int32) * x2) + x5) - (1:Int32))).bind (fun v8 => (wr σ 11 (((30:Int32) * x2) + x5) v8).bind (fun s9 => f_putTop_94 n (x1) (x2) (x3) ((x5 + ((-1):Int32))) s9)))) = some q := h
    refine lv_iload hx hb dX12_putTop_94 (lv_at hl 4 rfl) ?_
    refine lv_iload_n hx hb dX12_putTop_96 rfl (lv_at hl 3 rfl) ?_
    refine lv_icmp_le (tgt := 132) hx hb dX12_putTop_97 rfl (fun hc => ?_) (fun hc => ?_)
    · have h := ip hc h
      refine lv_aload_n hx hb dX12_putTop_132 rfl (lv_at hl 0 rfl) ?_
      refine mg_top X hP dX12_putTop_133 ?_
      refine lv_bipush (v := (30:Int32)) hx hb dX12_putTop_136 (by decide) ?_
      refine lv_iload_n hx hb dX12_putTop_138 rfl (lv_at hl 2 rfl) ?_
      refine lv_imul hx hb dX12_putTop_139 ?_
      refine lv_iload_n hx hb dX12_putTop_140 rfl (lv_at hl 3 rfl) ?_
      refine lv_iadd hx hb dX12_putTop_141 ?_
      refine lv_iload_n hx hb dX12_putTop_142 rfl (lv_at hl 1 rfl) ?_
      obtain ⟨s1, hs1, h⟩ := ob h
      refine m_ast X hP hF hs1 dX12_putTop_143 (fun H locs hP hF => ?_)
      refine lv_aload_n hx hb dX12_putTop_144 rfl (lv_at hl 0 rfl) ?_
      refine mg_tops X hP dX12_putTop_145 ?_
      refine lv_iload_n hx hb dX12_putTop_148 rfl (lv_at hl 2 rfl) ?_
      refine lv_dup2_11 hx hb dX12_putTop_149 rfl rfl ?_
      obtain ⟨v2, hv2, h⟩ := ob h
      refine m_ald X hP hv2 dX12_putTop_150 ?_
      refine lv_iconst (v := (1:Int32)) hx hb dX12_putTop_151 (by decide) ?_
      refine lv_iadd hx hb dX12_putTop_152 ?_
      obtain ⟨s3, hs3, h⟩ := ob h
      refine m_ast X hP hF hs3 dX12_putTop_153 (fun H locs hP hF => ?_)
      refine lv_aload_n hx hb dX12_putTop_154 rfl (lv_at hl 0 rfl) ?_
      refine mg_host X hP dX12_putTop_155 ?_
      refine lv_iload_n hx hb dX12_putTop_158 rfl (lv_at hl 1 rfl) ?_
      refine lv_iload_n hx hb dX12_putTop_159 rfl (lv_at hl 2 rfl) ?_
      obtain ⟨s4, hs4, h⟩ := ob h
      refine m_ast X hP hF hs4 dX12_putTop_160 (fun H locs hP hF => ?_)
      refine lv_aload_n hx hb dX12_putTop_161 rfl (lv_at hl 0 rfl) ?_
      refine lv_iload_n hx hb dX12_putTop_162 rfl (lv_at hl 1 rfl) ?_
      obtain ⟨v5, hv5, h⟩ := ob h
      refine cl_markWith X hP hF hv5 ⟨Nat.le_of_ble_eq_true rfl, Nat.le_of_ble_eq_true rfl⟩ hl.1 (Nat.le_of_ble_eq_true rfl) dX12_putTop_163 (fun H locs hP hF => ?_)
      refine lv_aload_n hx hb dX12_putTop_166 rfl (lv_at hl 0 rfl) ?_
      refine lv_aload_n hx hb dX12_putTop_167 rfl (lv_at hl 0 rfl) ?_
      refine lv_iload_n hx hb dX12_putTop_168 rfl (lv_at hl 1 rfl) ?_
      obtain ⟨v6, hv6, h⟩ := ob h
      refine cl_sibling X hP hv6 ⟨Nat.le_of_ble_eq_true rfl, Nat.le_of_ble_eq_true rfl⟩ hl.1 (Nat.le_of_ble_eq_true rfl) dX12_putTop_169 ?_
      refine lv_iconst (v := ((-1):Int32)) hx hb dX12_putTop_172 (by decide) ?_
      refine lv_iload_n hx hb dX12_putTop_173 rfl (lv_at hl 2 rfl) ?_
      obtain ⟨v7, hv7, h⟩ := ob h
      refine cl_markPlace X hP hF hv7 ⟨Nat.le_of_ble_eq_true rfl, Nat.le_of_ble_eq_true rfl⟩ hl.1 (Nat.le_of_ble_eq_true rfl) dX12_putTop_174 (fun H locs hP hF => ?_)
      exact N_putTop_177 X hP hF (lv_sub hl [0] rfl) h
    · have h := ine hc h
      refine lv_aload_n hx hb dX12_putTop_100 rfl (lv_at hl 0 rfl) ?_
      refine mg_top X hP dX12_putTop_101 ?_
      refine lv_bipush (v := (30:Int32)) hx hb dX12_putTop_104 (by decide) ?_
      refine lv_iload_n hx hb dX12_putTop_106 rfl (lv_at hl 2 rfl) ?_
      refine lv_imul hx hb dX12_putTop_107 ?_
      refine lv_iload hx hb dX12_putTop_108 (lv_at hl 4 rfl) ?_
      refine lv_iadd hx hb dX12_putTop_110 ?_
      refine lv_aload_n hx hb dX12_putTop_111 rfl (lv_at hl 0 rfl) ?_
      refine mg_top X hP dX12_putTop_112 ?_
      refine lv_bipush (v := (30:Int32)) hx hb dX12_putTop_115 (by decide) ?_
      refine lv_iload_n hx hb dX12_putTop_117 rfl (lv_at hl 2 rfl) ?_
      refine lv_imul hx hb dX12_putTop_118 ?_
      refine lv_iload hx hb dX12_putTop_119 (lv_at hl 4 rfl) ?_
      refine lv_iadd hx hb dX12_putTop_121 ?_
      refine lv_iconst (v := (1:Int32)) hx hb dX12_putTop_122 (by decide) ?_
      refine lv_isub hx hb dX12_putTop_123 ?_
      obtain ⟨v8, hv8, h⟩ := ob h
      refine m_ald X hP hv8 dX12_putTop_124 ?_
      obtain ⟨s9, hs9, h⟩ := ob h
      refine m_ast X hP hF hs9 dX12_putTop_125 (fun H locs hP hF => ?_)
      refine lv_iinc (v := (x5 + ((-1):Int32))) hx hb dX12_putTop_126 hl (k := 4) rfl rfl (Nat.le_of_ble_eq_true rfl) rfl (fun ls (hl : lv_has ls 6 [(5, .int (x5 + ((-1):Int32))), (0, .ref mb), (1, .int x1), (2, .int x2), (3, .int x3)]) => ?_)
      refine lv_goto (tgt := 94) hx hb dX12_putTop_129 rfl ?_
      exact ih hP hF (lv_sub hl [1, 2, 3, 4, 0] rfl) h
set_option maxRecDepth 20000 in
set_option maxHeartbeats 4000000 in
theorem N_putTop_80 {p : Program} {l : Launch} {e : Env} {s : State} {m : MethodId} {args : Array Value} {below : List Frame} {meth : Method} {c : Code} {D : mD} {mb : Nat}   {x1 : Int32} {x2 : Int32} {x3 : Int32} {y1 : Int32} {σ : mS} {H : Heap} {locs : List Loc} {ls : Array Slot} {q : mS} (X : mX p s m args meth c cX12_putTop 6 none D) (hP : mP D mb σ H) (hF : mF mb s.heap H locs)  (hl : lv_has ls 6 [(0, .ref mb), (1, .int x1), (2, .int x2), (3, .int x3)]) (h : f_putTop_80  x1 x2 x3 y1 σ = some q) : mWw p l e 9 205 s m args below meth c D mb q none H locs (F0 m 80 ls [.int y1, .ref mb]) := by
  have hx := X.1
  have hb := X.2.1
  have hown := X.2.2.2.1
  have hts := X.2.2.2.2.1
  have h : ((f_holds (y1) σ).bind (fun v1 => if v1.1 = (0:Int32) then ((rd v1.2 12 x2).bind (fun v2 => f_putTop_94 4000 (x1) (x2) (x3) (v2) v1.2)) else (f_putTop_177 v1.2))) = some q := h
  obtain ⟨v1, hv1, h⟩ := ob h
  refine cl_holds X hP hF hv1 ⟨Nat.le_of_ble_eq_true rfl, Nat.le_of_ble_eq_true rfl⟩ hl.1 (Nat.le_of_ble_eq_true rfl) dX12_putTop_80 (fun H locs hP hF => ?_)
  refine lv_if_ne (tgt := 177) hx hb dX12_putTop_83 rfl (fun hc => ?_) (fun hc => ?_)
  · have h := ine hc h
    exact N_putTop_177 X hP hF (lv_sub hl [0] rfl) h
  · have h := ip hc h
    refine lv_aload_n hx hb dX12_putTop_86 rfl (lv_at hl 0 rfl) ?_
    refine mg_tops X hP dX12_putTop_87 ?_
    refine lv_iload_n hx hb dX12_putTop_90 rfl (lv_at hl 2 rfl) ?_
    obtain ⟨v2, hv2, h⟩ := ob h
    refine m_ald X hP hv2 dX12_putTop_91 ?_
    refine lv_istore hx hb dX12_putTop_92 hl (Nat.le_of_ble_eq_true rfl) rfl (fun ls (hl : lv_has ls 6 [(5, .int v2), (0, .ref mb), (1, .int x1), (2, .int x2), (3, .int x3)]) => ?_)
    exact N_putTop_94 X hP hF (lv_sub hl [1, 2, 3, 4, 0] rfl) h
set_option maxRecDepth 20000 in
set_option maxHeartbeats 4000000 in
theorem N_putTop_75 {p : Program} {l : Launch} {e : Env} {s : State} {m : MethodId} {args : Array Value} {below : List Frame} {meth : Method} {c : Code} {D : mD} {mb : Nat}   {x1 : Int32} {x2 : Int32} {x3 : Int32} {σ : mS} {H : Heap} {locs : List Loc} {ls : Array Slot} {q : mS} (X : mX p s m args meth c cX12_putTop 6 none D) (hP : mP D mb σ H) (hF : mF mb s.heap H locs)  (hl : lv_has ls 6 [(0, .ref mb), (1, .int x1), (2, .int x2), (3, .int x3)]) (h : f_putTop_75  x1 x2 x3 σ = some q) : mWw p l e 9 205 s m args below meth c D mb q none H locs (F0 m 75 ls [.ref mb]) := by
  have hx := X.1
  have hb := X.2.1
  have hown := X.2.2.2.1
  have hts := X.2.2.2.2.1
  have h : (f_putTop_80 (x1) (x2) (x3) ((2:Int32)) σ) = some q := h
  refine lv_iconst (v := (2:Int32)) hx hb dX12_putTop_75 (by decide) ?_
  refine lv_goto (tgt := 80) hx hb dX12_putTop_76 rfl ?_
  exact N_putTop_80 X hP hF (lv_sub hl [0, 1, 2, 3] rfl) h
set_option maxRecDepth 20000 in
set_option maxHeartbeats 4000000 in
theorem N_putTop_46 {p : Program} {l : Launch} {e : Env} {s : State} {m : MethodId} {args : Array Value} {below : List Frame} {meth : Method} {c : Code} {D : mD} {mb : Nat}   {x1 : Int32} {x2 : Int32} {x3 : Int32} {y0 : Int32} {σ : mS} {H : Heap} {locs : List Loc} {ls : Array Slot} {q : mS} (X : mX p s m args meth c cX12_putTop 6 none D) (hP : mP D mb σ H) (hF : mF mb s.heap H locs)  (hl : lv_has ls 6 [(0, .ref mb), (1, .int x1), (2, .int x2), (3, .int x3)]) (h : f_putTop_46  x1 x2 x3 y0 σ = some q) : mWw p l e 9 205 s m args below meth c D mb q none H locs (F0 m 46 ls [.int y0]) := by
  have hx := X.1
  have hb := X.2.1
  have hown := X.2.2.2.1
  have hts := X.2.2.2.2.1
  have h : (if y0 = (0:Int32) then (f_putTop_80 (x1) (x2) (x3) ((1:Int32)) σ) else ((f_loose (x1) σ).bind (fun v1 => if v1 = (0:Int32) then (f_putTop_75 (x1) (x2) (x3) σ) else ((f_within (x2) (x1) σ).bind (fun v2 => if v2 = (0:Int32) then (f_putTop_80 (x1) (x2) (x3) ((0:Int32)) σ) else (f_putTop_75 (x1) (x2) (x3) σ)))))) = some q := h
  refine lv_istore hx hb dX12_putTop_46 hl (Nat.le_of_ble_eq_true rfl) rfl (fun ls (hl : lv_has ls 6 [(4, .int y0), (0, .ref mb), (1, .int x1), (2, .int x2), (3, .int x3)]) => ?_)
  refine lv_aload_n hx hb dX12_putTop_48 rfl (lv_at hl 1 rfl) ?_
  refine lv_iload hx hb dX12_putTop_49 (lv_at hl 0 rfl) ?_
  refine lv_if_ne (tgt := 58) hx hb dX12_putTop_51 rfl (fun hc => ?_) (fun hc => ?_)
  · have h := ine hc h
    refine lv_aload_n hx hb dX12_putTop_58 rfl (lv_at hl 1 rfl) ?_
    refine lv_iload_n hx hb dX12_putTop_59 rfl (lv_at hl 2 rfl) ?_
    obtain ⟨v1, hv1, h⟩ := ob h
    refine cl_loose X hP hv1 ⟨Nat.le_of_ble_eq_true rfl, Nat.le_of_ble_eq_true rfl⟩ hl.1 (Nat.le_of_ble_eq_true rfl) dX12_putTop_60 ?_
    refine lv_if_eq (tgt := 75) hx hb dX12_putTop_63 rfl (fun hc => ?_) (fun hc => ?_)
    · have h := ip hc h
      exact N_putTop_75 X hP hF (lv_sub hl [1, 2, 3, 4] rfl) h
    · have h := ine hc h
      refine lv_aload_n hx hb dX12_putTop_66 rfl (lv_at hl 1 rfl) ?_
      refine lv_iload_n hx hb dX12_putTop_67 rfl (lv_at hl 3 rfl) ?_
      refine lv_iload_n hx hb dX12_putTop_68 rfl (lv_at hl 2 rfl) ?_
      obtain ⟨v2, hv2, h⟩ := ob h
      refine cl_within X hP hv2 ⟨Nat.le_of_ble_eq_true rfl, Nat.le_of_ble_eq_true rfl⟩ hl.1 (Nat.le_of_ble_eq_true rfl) dX12_putTop_69 ?_
      refine lv_if_eq (tgt := 79) hx hb dX12_putTop_72 rfl (fun hc => ?_) (fun hc => ?_)
      · have h := ip hc h
        refine lv_iconst (v := (0:Int32)) hx hb dX12_putTop_79 (by decide) ?_
        exact N_putTop_80 X hP hF (lv_sub hl [1, 2, 3, 4] rfl) h
      · have h := ine hc h
        exact N_putTop_75 X hP hF (lv_sub hl [1, 2, 3, 4] rfl) h
  · have h := ip hc h
    refine lv_iconst (v := (1:Int32)) hx hb dX12_putTop_54 (by decide) ?_
    refine lv_goto (tgt := 80) hx hb dX12_putTop_55 rfl ?_
    exact N_putTop_80 X hP hF (lv_sub hl [1, 2, 3, 4] rfl) h
set_option maxRecDepth 20000 in
set_option maxHeartbeats 4000000 in
theorem N_putTop_45 {p : Program} {l : Launch} {e : Env} {s : State} {m : MethodId} {args : Array Value} {below : List Frame} {meth : Method} {c : Code} {D : mD} {mb : Nat}   {x1 : Int32} {x2 : Int32} {x3 : Int32} {σ : mS} {H : Heap} {locs : List Loc} {ls : Array Slot} {q : mS} (X : mX p s m args meth c cX12_putTop 6 none D) (hP : mP D mb σ H) (hF : mF mb s.heap H locs)  (hl : lv_has ls 6 [(0, .ref mb), (1, .int x1), (2, .int x2), (3, .int x3)]) (h : f_putTop_45  x1 x2 x3 σ = some q) : mWw p l e 9 205 s m args below meth c D mb q none H locs (F0 m 45 ls []) := by
  have hx := X.1
  have hb := X.2.1
  have hown := X.2.2.2.1
  have hts := X.2.2.2.2.1
  have h : (f_putTop_46 (x1) (x2) (x3) ((0:Int32)) σ) = some q := h
  refine lv_iconst (v := (0:Int32)) hx hb dX12_putTop_45 (by decide) ?_
  exact N_putTop_46 X hP hF (lv_sub hl [0, 1, 2, 3] rfl) h
set_option maxRecDepth 20000 in
set_option maxHeartbeats 4000000 in
theorem K_putTop (l : Launch) (D : mD) (mb : Nat) (σ : mS) (x1 : Int32) (x2 : Int32) (x3 : Int32) {q : mS} (h : f_putTop x1 x2 x3 σ = some q) : Met l yX12_putTop (Cond.code yX12_putTop cX12_putTop 6 none :: BG) (rM 9 205) (mPc D mb σ [.int x1, .int x2, .int x3]) (mQw D mb q none) 0 0 (mReg mb) := by
  refine Met.ofW (cc := cX12_putTop) (maxL := 6) (ret := none) (by decide) rfl ?_
  intro p e s m args below meth c s₁ B hml hv
  obtain ⟨rfl, hP, hK⟩ := hv
  have X := mX_of B hml rfl hK
  have hx := X.1
  have hb := X.2.1
  have hown := X.2.2.2.1
  have hts := X.2.2.2.2.1
  have hl := lv_entry (.ref mb :: [.int x1, .int x2, .int x3]) (n := 6) (Nat.le_of_ble_eq_true rfl)
  rw [lg_entry_eq]
  generalize (lg_sl (.ref mb :: [.int x1, .int x2, .int x3]) ++ List.replicate (6 - (lg_sl (.ref mb :: [.int x1, .int x2, .int x3])).length) Slot.unset).toArray = ls at hl ⊢
  have hl : lv_has ls 6 [(0, .ref mb), (1, .int x1), (2, .int x2), (3, .int x3)] := hl
  have hF : mF mb s.heap s.heap [] := mF.rf
  show mWw p l e 9 205 s m (Value.ref mb :: [.int x1, .int x2, .int x3]).toArray below meth c D mb q none s.heap [] (F0 m 0 ls [])
  have h : ((f_isElement (x1) σ).bind (fun v1 => if v1 = (0:Int32) then (f_putTop_45 (x1) (x2) (x3) σ) else ((f_isElement (x2) σ).bind (fun v2 => if v2 = (0:Int32) then (f_putTop_45 (x1) (x2) (x3) σ) else ((rd σ 8 x2).bind (fun v3 => if v3 = (1:Int32) then ((rd σ 12 x2).bind (fun v4 => (f_in (x3) ((0:Int32)) (v4)).bind (fun v5 => if v5 = (0:Int32) then (f_putTop_45 (x1) (x2) (x3) σ) else (f_putTop_46 (x1) (x2) (x3) ((1:Int32)) σ)))) else (f_putTop_45 (x1) (x2) (x3) σ))))))) = some q := h
  refine lv_aload_n hx hb dX12_putTop_0 rfl (lv_at hl 0 rfl) ?_
  refine lv_iload_n hx hb dX12_putTop_1 rfl (lv_at hl 1 rfl) ?_
  obtain ⟨v1, hv1, h⟩ := ob h
  refine cl_isElement X hP hv1 ⟨Nat.le_of_ble_eq_true rfl, Nat.le_of_ble_eq_true rfl⟩ hl.1 (Nat.le_of_ble_eq_true rfl) dX12_putTop_2 ?_
  refine lv_if_eq (tgt := 45) hx hb dX12_putTop_5 rfl (fun hc => ?_) (fun hc => ?_)
  · have h := ip hc h
    exact N_putTop_45 X hP hF (lv_sub hl [0, 1, 2, 3] rfl) h
  · have h := ine hc h
    refine lv_aload_n hx hb dX12_putTop_8 rfl (lv_at hl 0 rfl) ?_
    refine lv_iload_n hx hb dX12_putTop_9 rfl (lv_at hl 2 rfl) ?_
    obtain ⟨v2, hv2, h⟩ := ob h
    refine cl_isElement X hP hv2 ⟨Nat.le_of_ble_eq_true rfl, Nat.le_of_ble_eq_true rfl⟩ hl.1 (Nat.le_of_ble_eq_true rfl) dX12_putTop_10 ?_
    refine lv_if_eq (tgt := 45) hx hb dX12_putTop_13 rfl (fun hc => ?_) (fun hc => ?_)
    · have h := ip hc h
      exact N_putTop_45 X hP hF (lv_sub hl [0, 1, 2, 3] rfl) h
    · have h := ine hc h
      refine lv_aload_n hx hb dX12_putTop_16 rfl (lv_at hl 0 rfl) ?_
      refine mg_shadow X hP dX12_putTop_17 ?_
      refine lv_iload_n hx hb dX12_putTop_20 rfl (lv_at hl 2 rfl) ?_
      obtain ⟨v3, hv3, h⟩ := ob h
      refine m_ald X hP hv3 dX12_putTop_21 ?_
      refine lv_iconst (v := (1:Int32)) hx hb dX12_putTop_22 (by decide) ?_
      refine lv_icmp_ne (tgt := 45) hx hb dX12_putTop_23 rfl (fun hc => ?_) (fun hc => ?_)
      · have h := ine hc h
        exact N_putTop_45 X hP hF (lv_sub hl [0, 1, 2, 3] rfl) h
      · have h := ip hc h
        refine lv_aload_n hx hb dX12_putTop_26 rfl (lv_at hl 0 rfl) ?_
        refine lv_iload_n hx hb dX12_putTop_27 rfl (lv_at hl 3 rfl) ?_
        refine lv_iconst (v := (0:Int32)) hx hb dX12_putTop_28 (by decide) ?_
        refine lv_aload_n hx hb dX12_putTop_29 rfl (lv_at hl 0 rfl) ?_
        refine mg_tops X hP dX12_putTop_30 ?_
        refine lv_iload_n hx hb dX12_putTop_33 rfl (lv_at hl 2 rfl) ?_
        obtain ⟨v4, hv4, h⟩ := ob h
        refine m_ald X hP hv4 dX12_putTop_34 ?_
        obtain ⟨v5, hv5, h⟩ := ob h
        refine cl_in X hP hv5 ⟨Nat.le_of_ble_eq_true rfl, Nat.le_of_ble_eq_true rfl⟩ hl.1 (Nat.le_of_ble_eq_true rfl) dX12_putTop_35 ?_
        refine lv_if_eq (tgt := 45) hx hb dX12_putTop_38 rfl (fun hc => ?_) (fun hc => ?_)
        · have h := ip hc h
          exact N_putTop_45 X hP hF (lv_sub hl [0, 1, 2, 3] rfl) h
        · have h := ine hc h
          refine lv_iconst (v := (1:Int32)) hx hb dX12_putTop_41 (by decide) ?_
          refine lv_goto (tgt := 46) hx hb dX12_putTop_42 rfl ?_
          exact N_putTop_46 X hP hF (lv_sub hl [0, 1, 2, 3] rfl) h
-- leave()V
def f_leave_60 (k27 : Int32 → Int32 → mS → Option (mS)) (x1 : Int32) (x2 : Int32) (y1 : Int32) (y2 : Int32) (σ : mS) : Option (mS) := (wr σ 55 y1 y2).bind (fun s1 => k27 (x1) ((x2 + (1:Int32))) s1)
def f_leave_27  : Nat → Int32 → Int32 → mS → Option (mS)
  | 0, _, _, _ => none
  | n + 1, x1, x2, σ => if (150:Int32) ≤ x2 then (some σ) else ((dv x2 (5:Int32)).bind (fun v1 => (f_bit (x1) (v1)).bind (fun v2 => if v2 = (0:Int32) then (f_leave_60 (f_leave_27 n) (x1) (x2) (x2) (((-1):Int32)) σ) else ((rd σ 55 x2).bind (fun v3 => f_leave_60 (f_leave_27 n) (x1) (x2) (x2) (v3) σ)))))
def f_leave  (σ : mS) : Option (mS) := (f_docMask  σ).bind (fun v1 => f_leave_27 4000 (v1) ((0:Int32)) (sf (sf σ 48 ((σ.2 48) &&& v1)) 49 (((sf σ 48 ((σ.2 48) &&& v1)).2 49) &&& v1)))
set_option maxRecDepth 20000 in
set_option maxHeartbeats 4000000 in
theorem N_leave_60 {p : Program} {l : Launch} {e : Env} {s : State} {m : MethodId} {args : Array Value} {below : List Frame} {meth : Method} {c : Code} {D : mD} {mb : Nat} {k27 : Int32 → Int32 → mS → Option (mS)}  {x1 : Int32} {x2 : Int32} {y1 : Int32} {y2 : Int32} {σ : mS} {H : Heap} {locs : List Loc} {ls : Array Slot} {q : mS} (X : mX p s m args meth c cX12_leave 3 none D) (hP : mP D mb σ H) (hF : mF mb s.heap H locs) (hk27 : ∀ {x1 : Int32} {x2 : Int32} {σ : mS} {H : Heap} {locs : List Loc} {ls : Array Slot}, mP D mb σ H → mF mb s.heap H locs → lv_has ls 3 [(0, .ref mb), (1, .int x1), (2, .int x2)] → k27 x1 x2 σ = some q → mWw p l e 4 88 s m args below meth c D mb q none H locs (F0 m 27 ls [])) (hl : lv_has ls 3 [(0, .ref mb), (1, .int x1), (2, .int x2)]) (h : f_leave_60 k27 x1 x2 y1 y2 σ = some q) : mWw p l e 4 88 s m args below meth c D mb q none H locs (F0 m 60 ls [.int y2, .int y1, .ref (mA mb 55)]) := by
  have hx := X.1
  have hb := X.2.1
  have hown := X.2.2.2.1
  have hts := X.2.2.2.2.1
  have h : ((wr σ 55 y1 y2).bind (fun s1 => k27 (x1) ((x2 + (1:Int32))) s1)) = some q := h
  obtain ⟨s1, hs1, h⟩ := ob h
  refine m_ast X hP hF hs1 dX12_leave_60 (fun H locs hP hF => ?_)
  refine lv_iinc (v := (x2 + (1:Int32))) hx hb dX12_leave_61 hl (k := 2) rfl rfl (Nat.le_of_ble_eq_true rfl) rfl (fun ls (hl : lv_has ls 3 [(2, .int (x2 + (1:Int32))), (0, .ref mb), (1, .int x1)]) => ?_)
  refine lv_goto (tgt := 27) hx hb dX12_leave_64 rfl ?_
  exact hk27 hP hF (lv_sub hl [1, 2, 0] rfl) h
set_option maxRecDepth 20000 in
set_option maxHeartbeats 4000000 in
theorem N_leave_27 {p : Program} {l : Launch} {e : Env} {s : State} {m : MethodId} {args : Array Value} {below : List Frame} {meth : Method} {c : Code} {D : mD} {mb : Nat}  {n : Nat} {x1 : Int32} {x2 : Int32} {σ : mS} {H : Heap} {locs : List Loc} {ls : Array Slot} {q : mS} (X : mX p s m args meth c cX12_leave 3 none D) (hP : mP D mb σ H) (hF : mF mb s.heap H locs)  (hl : lv_has ls 3 [(0, .ref mb), (1, .int x1), (2, .int x2)]) (h : f_leave_27  n x1 x2 σ = some q) : mWw p l e 4 88 s m args below meth c D mb q none H locs (F0 m 27 ls []) := by
  have hx := X.1
  have hb := X.2.1
  have hown := X.2.2.2.1
  have hts := X.2.2.2.2.1
  induction n generalizing x1 x2 σ H locs ls with
  | zero => exact absurd (show none = some q from h) (by simp)
  | succ n ih =>
    have h : (if (150:Int32) ≤ x2 then (some σ) else ((dv x2 (5:Int32)).bind (fun v1 => (f_bit (x1) (v1)).bind (fun v2 => if v2 = (0:Int32) then (f_leave_60 (f_leave_27 n) (x1) (x2) (x2) (((-1):Int32)) σ) else ((rd σ 55 x2).bind (fun v3 => f_leave_60 (f_leave_27 n) (x1) (x2) (x2) (v3) σ)))))) = some q := h
    refine lv_iload_n hx hb dX12_leave_27 rfl (lv_at hl 2 rfl) ?_
    refine lv_sipush (v := (150:Int32)) hx hb dX12_leave_28 (by decide) ?_
    refine lv_icmp_ge (tgt := 67) hx hb dX12_leave_31 rfl (fun hc => ?_) (fun hc => ?_)
    · have h := ip hc h
      obtain rfl := sj h
      exact m_wv X hP hF dX12_leave_67
    · have h := ine hc h
      refine lv_aload_n hx hb dX12_leave_34 rfl (lv_at hl 0 rfl) ?_
      refine mg_trs X hP dX12_leave_35 ?_
      refine lv_iload_n hx hb dX12_leave_38 rfl (lv_at hl 2 rfl) ?_
      refine lv_aload_n hx hb dX12_leave_39 rfl (lv_at hl 0 rfl) ?_
      refine lv_iload_n hx hb dX12_leave_40 rfl (lv_at hl 1 rfl) ?_
      refine lv_iload_n hx hb dX12_leave_41 rfl (lv_at hl 2 rfl) ?_
      refine lv_iconst (v := (5:Int32)) hx hb dX12_leave_42 (by decide) ?_
      obtain ⟨v1, hv1, h⟩ := ob h
      obtain ⟨hnv1, hev1⟩ := dv_spec hv1
      refine lv_idiv hx hb dX12_leave_43 hnv1 ?_
      rw [hev1]
      obtain ⟨v2, hv2, h⟩ := ob h
      refine cl_bit X hP hv2 ⟨Nat.le_of_ble_eq_true rfl, Nat.le_of_ble_eq_true rfl⟩ hl.1 (Nat.le_of_ble_eq_true rfl) dX12_leave_44 ?_
      refine lv_if_eq (tgt := 59) hx hb dX12_leave_47 rfl (fun hc => ?_) (fun hc => ?_)
      · have h := ip hc h
        refine lv_iconst (v := ((-1):Int32)) hx hb dX12_leave_59 (by decide) ?_
        exact N_leave_60 X hP hF ih (lv_sub hl [0, 1, 2] rfl) h
      · have h := ine hc h
        refine lv_aload_n hx hb dX12_leave_50 rfl (lv_at hl 0 rfl) ?_
        refine mg_trs X hP dX12_leave_51 ?_
        refine lv_iload_n hx hb dX12_leave_54 rfl (lv_at hl 2 rfl) ?_
        obtain ⟨v3, hv3, h⟩ := ob h
        refine m_ald X hP hv3 dX12_leave_55 ?_
        refine lv_goto (tgt := 60) hx hb dX12_leave_56 rfl ?_
        exact N_leave_60 X hP hF ih (lv_sub hl [0, 1, 2] rfl) h
set_option maxRecDepth 20000 in
set_option maxHeartbeats 4000000 in
theorem K_leave (l : Launch) (D : mD) (mb : Nat) (σ : mS)  {q : mS} (h : f_leave  σ = some q) : Met l yX12_leave (Cond.code yX12_leave cX12_leave 3 none :: BG) (rM 4 88) (mPc D mb σ []) (mQw D mb q none) 0 0 (mReg mb) := by
  refine Met.ofW (cc := cX12_leave) (maxL := 3) (ret := none) (by decide) rfl ?_
  intro p e s m args below meth c s₁ B hml hv
  obtain ⟨rfl, hP, hK⟩ := hv
  have X := mX_of B hml rfl hK
  have hx := X.1
  have hb := X.2.1
  have hown := X.2.2.2.1
  have hts := X.2.2.2.2.1
  have hl := lv_entry (.ref mb :: []) (n := 3) (Nat.le_of_ble_eq_true rfl)
  rw [lg_entry_eq]
  generalize (lg_sl (.ref mb :: []) ++ List.replicate (3 - (lg_sl (.ref mb :: [])).length) Slot.unset).toArray = ls at hl ⊢
  have hl : lv_has ls 3 [(0, .ref mb)] := hl
  have hF : mF mb s.heap s.heap [] := mF.rf
  show mWw p l e 4 88 s m (Value.ref mb :: []).toArray below meth c D mb q none s.heap [] (F0 m 0 ls [])
  have h : ((f_docMask  σ).bind (fun v1 => f_leave_27 4000 (v1) ((0:Int32)) (sf (sf σ 48 ((σ.2 48) &&& v1)) 49 (((sf σ 48 ((σ.2 48) &&& v1)).2 49) &&& v1)))) = some q := h
  refine lv_aload_n hx hb dX12_leave_0 rfl (lv_at hl 0 rfl) ?_
  obtain ⟨v1, hv1, h⟩ := ob h
  refine cl_docMask X hP hv1 ⟨Nat.le_of_ble_eq_true rfl, Nat.le_of_ble_eq_true rfl⟩ hl.1 (Nat.le_of_ble_eq_true rfl) dX12_leave_1 ?_
  refine lv_istore_n hx hb dX12_leave_4 rfl hl (Nat.le_of_ble_eq_true rfl) rfl (fun ls (hl : lv_has ls 3 [(1, .int v1), (0, .ref mb)]) => ?_)
  refine lv_aload_n hx hb dX12_leave_5 rfl (lv_at hl 1 rfl) ?_
  refine lv_dup hx hb dX12_leave_6 rfl ?_
  refine mg_has X hP dX12_leave_7 ?_
  refine lv_iload_n hx hb dX12_leave_10 rfl (lv_at hl 0 rfl) ?_
  refine lv_iand hx hb dX12_leave_11 ?_
  refine mp_has X hP hF dX12_leave_12 (fun H locs hP hF => ?_)
  refine lv_aload_n hx hb dX12_leave_15 rfl (lv_at hl 1 rfl) ?_
  refine lv_dup hx hb dX12_leave_16 rfl ?_
  refine mg_mk X hP dX12_leave_17 ?_
  refine lv_iload_n hx hb dX12_leave_20 rfl (lv_at hl 0 rfl) ?_
  refine lv_iand hx hb dX12_leave_21 ?_
  refine mp_mk X hP hF dX12_leave_22 (fun H locs hP hF => ?_)
  refine lv_iconst (v := (0:Int32)) hx hb dX12_leave_25 (by decide) ?_
  refine lv_istore_n hx hb dX12_leave_26 rfl hl (Nat.le_of_ble_eq_true rfl) rfl (fun ls (hl : lv_has ls 3 [(2, .int (0:Int32)), (1, .int v1), (0, .ref mb)]) => ?_)
  exact N_leave_27 X hP hF (lv_sub hl [2, 1, 0] rfl) h
theorem cl_leave {p : Program} {l : Launch} {e : Env} {s : State} {m : MethodId} {args : Array Value} {below : List Frame} {meth : Method} {c : Code} {D : mD} {mb : Nat} {H : Heap} {locs : List Loc} {Q : State → Prop} {cc : ByteArray} {pc fR lR nL : Nat} {ls : Array Slot} {rest : List Value} {ret : Option FieldType} {σ : mS} (X : mX p s m args meth c cc nL ret D) (hP : mP D mb σ H) (hF : mF mb s.heap H locs)  {q : mS} (h : f_leave  σ = some q) (hr : 4 + 1 ≤ fR ∧ 8 + (3 + 11) + 88 ≤ lR) (hl : ls.size = nL) (hW : (rest.map fun v => v.category).sum ≤ 8) (hdg : decode cc pc = .ok (.invokevirtual 525, 3)) (kk : ∀ (H1 : Heap) (locs1 : List Loc), mP D mb q H1 → mF mb s.heap H1 locs1 → W p l e (rM fR lR) s m args below meth c H1 locs1 0 0 Q (F0 m (pc + 3) ls rest)) : W p l e (rM fR lR) s m args below meth c H locs 0 0 Q (F0 m pc ls (.ref mb :: rest)) := m_cv (m_run (n := 0) X (K_leave l D mb σ  h) ⟨w_1954, w_1956, w_80, w_1957⟩ (hyX rfl (by decide +kernel)) rfl hr hP hl hW hdg rfl) hF kk
-- take(I)I
def f_take_233  (y0 : Int32) (σ : mS) : Option (Int32 × mS) := some (y0, σ)
def f_take_194  (x1 : Int32) (x2 : Int32) (x3 : Int32) (x4 : Int32) (x5 : Int32) (σ : mS) : Option (Int32 × mS) := (wr σ 6 x1 ((-1):Int32)).bind (fun s1 => (wr s1 7 x1 ((-1):Int32)).bind (fun s2 => (f_markPlace (x5) (x2) (x4) s2).bind (fun v3 => (f_leave  v3).bind (fun v4 => if x2 < (0:Int32) then (f_take_233 (((100:Int32) + x3)) v4) else (f_take_233 (x2) v4)))))
def f_take_151  : Nat → Int32 → Int32 → Int32 → Int32 → Int32 → Int32 → mS → Option (Int32 × mS)
  | 0, _, _, _, _, _, _, _ => none
  | n + 1, x1, x2, x3, x4, x5, x7, σ => (rd σ 12 x3).bind (fun v1 => if v1 ≤ x7 then (f_take_194 (x1) (x2) (x3) (x4) (x5) σ) else ((rd σ 11 ((((30:Int32) * x3) + x7) + (1:Int32))).bind (fun v2 => (wr σ 11 (((30:Int32) * x3) + x7) v2).bind (fun s3 => f_take_151 n (x1) (x2) (x3) (x4) (x5) ((x7 + (1:Int32))) s3))))
def f_take_91  : Nat → Int32 → Int32 → Int32 → Int32 → Int32 → Int32 → mS → Option (Int32 × mS)
  | 0, _, _, _, _, _, _, _ => none
  | n + 1, x1, x2, x3, x4, x5, x7, σ => (rd σ 10 x2).bind (fun v1 => if v1 ≤ x7 then (f_take_194 (x1) (x2) (x3) (x4) (x5) σ) else ((rd σ 9 ((((30:Int32) * x2) + x7) + (1:Int32))).bind (fun v2 => (wr σ 9 (((30:Int32) * x2) + x7) v2).bind (fun s3 => f_take_91 n (x1) (x2) (x3) (x4) (x5) ((x7 + (1:Int32))) s3))))
def f_take_30  (x1 : Int32) (y1 : Int32) (σ : mS) : Option (Int32 × mS) := (f_holds (y1) σ).bind (fun v1 => if v1.1 = (0:Int32) then ((rd v1.2 6 x1).bind (fun v2 => (rd v1.2 7 x1).bind (fun v3 => (f_treeOf (x1) v1.2).bind (fun v4 => (f_sibling (x1) v1.2).bind (fun v5 => (f_placeOf (x1) v1.2).bind (fun v6 => if v2 < (0:Int32) then ((rd v1.2 12 v3).bind (fun v7 => (wr v1.2 12 v3 (v7 - (1:Int32))).bind (fun s8 => f_take_151 4000 (x1) (v2) (v3) (v4) (v5) (v6) s8))) else ((rd v1.2 10 v2).bind (fun v9 => (wr v1.2 10 v2 (v9 - (1:Int32))).bind (fun s10 => f_take_91 4000 (x1) (v2) (v3) (v4) (v5) (v6) s10))))))))) else (some (((-1):Int32), v1.2)))
def f_take_25  (x1 : Int32) (σ : mS) : Option (Int32 × mS) := f_take_30 (x1) ((2:Int32)) σ
def f_take (x1 : Int32) (σ : mS) : Option (Int32 × mS) := (f_isElement (x1) σ).bind (fun v1 => if v1 = (0:Int32) then (f_take_30 (x1) ((1:Int32)) σ) else (if x1 = (0:Int32) then (f_take_25 (x1) σ) else ((f_loose (x1) σ).bind (fun v2 => if v2 = (0:Int32) then (f_take_30 (x1) ((0:Int32)) σ) else (f_take_25 (x1) σ)))))
set_option maxRecDepth 20000 in
set_option maxHeartbeats 4000000 in
theorem N_take_233 {p : Program} {l : Launch} {e : Env} {s : State} {m : MethodId} {args : Array Value} {below : List Frame} {meth : Method} {c : Code} {D : mD} {mb : Nat}   {y0 : Int32} {σ : mS} {H : Heap} {locs : List Loc} {ls : Array Slot} {q : Int32 × mS} (X : mX p s m args meth c cX12_take 8 (some .int) D) (hP : mP D mb σ H) (hF : mF mb s.heap H locs)  (hl : lv_has ls 8 [(0, .ref mb)]) (h : f_take_233  y0 σ = some q) : mWw p l e 9 205 s m args below meth c D mb q.2 (some (.int q.1)) H locs (F0 m 233 ls [.int y0]) := by
  have hx := X.1
  have hb := X.2.1
  have hown := X.2.2.2.1
  have hts := X.2.2.2.2.1
  have h : (some (y0, σ)) = some q := h
  obtain rfl := sj h
  exact m_wi X hP hF dX12_take_233
set_option maxRecDepth 20000 in
set_option maxHeartbeats 4000000 in
theorem N_take_194 {p : Program} {l : Launch} {e : Env} {s : State} {m : MethodId} {args : Array Value} {below : List Frame} {meth : Method} {c : Code} {D : mD} {mb : Nat}   {x1 : Int32} {x2 : Int32} {x3 : Int32} {x4 : Int32} {x5 : Int32} {σ : mS} {H : Heap} {locs : List Loc} {ls : Array Slot} {q : Int32 × mS} (X : mX p s m args meth c cX12_take 8 (some .int) D) (hP : mP D mb σ H) (hF : mF mb s.heap H locs)  (hl : lv_has ls 8 [(0, .ref mb), (1, .int x1), (2, .int x2), (3, .int x3), (4, .int x4), (5, .int x5)]) (h : f_take_194  x1 x2 x3 x4 x5 σ = some q) : mWw p l e 9 205 s m args below meth c D mb q.2 (some (.int q.1)) H locs (F0 m 194 ls []) := by
  have hx := X.1
  have hb := X.2.1
  have hown := X.2.2.2.1
  have hts := X.2.2.2.2.1
  have h : ((wr σ 6 x1 ((-1):Int32)).bind (fun s1 => (wr s1 7 x1 ((-1):Int32)).bind (fun s2 => (f_markPlace (x5) (x2) (x4) s2).bind (fun v3 => (f_leave  v3).bind (fun v4 => if x2 < (0:Int32) then (f_take_233 (((100:Int32) + x3)) v4) else (f_take_233 (x2) v4)))))) = some q := h
  refine lv_aload_n hx hb dX12_take_194 rfl (lv_at hl 0 rfl) ?_
  refine mg_parent X hP dX12_take_195 ?_
  refine lv_iload_n hx hb dX12_take_198 rfl (lv_at hl 1 rfl) ?_
  refine lv_iconst (v := ((-1):Int32)) hx hb dX12_take_199 (by decide) ?_
  obtain ⟨s1, hs1, h⟩ := ob h
  refine m_ast X hP hF hs1 dX12_take_200 (fun H locs hP hF => ?_)
  refine lv_aload_n hx hb dX12_take_201 rfl (lv_at hl 0 rfl) ?_
  refine mg_host X hP dX12_take_202 ?_
  refine lv_iload_n hx hb dX12_take_205 rfl (lv_at hl 1 rfl) ?_
  refine lv_iconst (v := ((-1):Int32)) hx hb dX12_take_206 (by decide) ?_
  obtain ⟨s2, hs2, h⟩ := ob h
  refine m_ast X hP hF hs2 dX12_take_207 (fun H locs hP hF => ?_)
  refine lv_aload_n hx hb dX12_take_208 rfl (lv_at hl 0 rfl) ?_
  refine lv_iload hx hb dX12_take_209 (lv_at hl 5 rfl) ?_
  refine lv_iload_n hx hb dX12_take_211 rfl (lv_at hl 2 rfl) ?_
  refine lv_iload hx hb dX12_take_212 (lv_at hl 4 rfl) ?_
  obtain ⟨v3, hv3, h⟩ := ob h
  refine cl_markPlace X hP hF hv3 ⟨Nat.le_of_ble_eq_true rfl, Nat.le_of_ble_eq_true rfl⟩ hl.1 (Nat.le_of_ble_eq_true rfl) dX12_take_214 (fun H locs hP hF => ?_)
  refine lv_aload_n hx hb dX12_take_217 rfl (lv_at hl 0 rfl) ?_
  obtain ⟨v4, hv4, h⟩ := ob h
  refine cl_leave X hP hF hv4 ⟨Nat.le_of_ble_eq_true rfl, Nat.le_of_ble_eq_true rfl⟩ hl.1 (Nat.le_of_ble_eq_true rfl) dX12_take_218 (fun H locs hP hF => ?_)
  refine lv_iload_n hx hb dX12_take_221 rfl (lv_at hl 2 rfl) ?_
  refine lv_if_lt (tgt := 229) hx hb dX12_take_222 rfl (fun hc => ?_) (fun hc => ?_)
  · have h := ip hc h
    refine lv_bipush (v := (100:Int32)) hx hb dX12_take_229 (by decide) ?_
    refine lv_iload_n hx hb dX12_take_231 rfl (lv_at hl 3 rfl) ?_
    refine lv_iadd hx hb dX12_take_232 ?_
    exact N_take_233 X hP hF (lv_sub hl [0] rfl) h
  · have h := ine hc h
    refine lv_iload_n hx hb dX12_take_225 rfl (lv_at hl 2 rfl) ?_
    refine lv_goto (tgt := 233) hx hb dX12_take_226 rfl ?_
    exact N_take_233 X hP hF (lv_sub hl [0] rfl) h
set_option maxRecDepth 20000 in
set_option maxHeartbeats 4000000 in
theorem N_take_151 {p : Program} {l : Launch} {e : Env} {s : State} {m : MethodId} {args : Array Value} {below : List Frame} {meth : Method} {c : Code} {D : mD} {mb : Nat}  {n : Nat} {x1 : Int32} {x2 : Int32} {x3 : Int32} {x4 : Int32} {x5 : Int32} {x7 : Int32} {σ : mS} {H : Heap} {locs : List Loc} {ls : Array Slot} {q : Int32 × mS} (X : mX p s m args meth c cX12_take 8 (some .int) D) (hP : mP D mb σ H) (hF : mF mb s.heap H locs)  (hl : lv_has ls 8 [(0, .ref mb), (1, .int x1), (2, .int x2), (3, .int x3), (4, .int x4), (5, .int x5), (7, .int x7)]) (h : f_take_151  n x1 x2 x3 x4 x5 x7 σ = some q) : mWw p l e 9 205 s m args below meth c D mb q.2 (some (.int q.1)) H locs (F0 m 151 ls []) := by
  have hx := X.1
  have hb := X.2.1
  have hown := X.2.2.2.1
  have hts := X.2.2.2.2.1
  induction n generalizing x1 x2 x3 x4 x5 x7 σ H locs ls with
  | zero => exact absurd (show none = some q from h) (by simp)
  | succ n ih =>
    have h : ((rd σ 12 x3).bind (fun v1 => if v1 ≤ x7 then (f_take_194 (x1) (x2) (x3) (x4) (x5) σ) else ((rd σ 11 ((((30:Int32) * x3) + x7) + (1:Int32))).bind (fun v2 => (wr σ 11 (((30:Int32) * x3) + x7) v2).bind (fun s3 => f_take_151 n (x1) (x2) (x3) (x4) (x5) ((x7 + (1:Int32))) s3))))) = some q := h
    refine lv_iload hx hb dX12_take_151 (lv_at hl 6 rfl) ?_
    refine lv_aload_n hx hb dX12_take_153 rfl (lv_at hl 0 rfl) ?_
    refine mg_tops X hP dX12_take_154 ?_
    refine lv_iload_n hx hb dX12_take_157 rfl (lv_at hl 3 rfl) ?_
    obtain ⟨v1, hv1, h⟩ := ob h
    refine m_ald X hP hv1 dX12_take_158 ?_
    refine lv_icmp_ge (tgt := 194) hx hb dX12_take_159 rfl (fun hc => ?_) (fun hc => ?_)
    · have h := ip hc h
      exact N_take_194 X hP hF (lv_sub hl [0, 1, 2, 3, 4, 5] rfl) h
    · have h := ine hc h
      refine lv_aload_n hx hb dX12_take_162 rfl (lv_at hl 0 rfl) ?_
      refine mg_top X hP dX12_take_163 ?_
      refine lv_bipush (v := (30:Int32)) hx hb dX12_take_166 (by decide) ?_
      refine lv_iload_n hx hb dX12_take_168 rfl (lv_at hl 3 rfl) ?_
      refine lv_imul hx hb dX12_take_169 ?_
      refine lv_iload hx hb dX12_take_170 (lv_at hl 6 rfl) ?_
      refine lv_iadd hx hb dX12_take_172 ?_
      refine lv_aload_n hx hb dX12_take_173 rfl (lv_at hl 0 rfl) ?_
      refine mg_top X hP dX12_take_174 ?_
      refine lv_bipush (v := (30:Int32)) hx hb dX12_take_177 (by decide) ?_
      refine lv_iload_n hx hb dX12_take_179 rfl (lv_at hl 3 rfl) ?_
      refine lv_imul hx hb dX12_take_180 ?_
      refine lv_iload hx hb dX12_take_181 (lv_at hl 6 rfl) ?_
      refine lv_iadd hx hb dX12_take_183 ?_
      refine lv_iconst (v := (1:Int32)) hx hb dX12_take_184 (by decide) ?_
      refine lv_iadd hx hb dX12_take_185 ?_
      obtain ⟨v2, hv2, h⟩ := ob h
      refine m_ald X hP hv2 dX12_take_186 ?_
      obtain ⟨s3, hs3, h⟩ := ob h
      refine m_ast X hP hF hs3 dX12_take_187 (fun H locs hP hF => ?_)
      refine lv_iinc (v := (x7 + (1:Int32))) hx hb dX12_take_188 hl (k := 6) rfl rfl (Nat.le_of_ble_eq_true rfl) rfl (fun ls (hl : lv_has ls 8 [(7, .int (x7 + (1:Int32))), (0, .ref mb), (1, .int x1), (2, .int x2), (3, .int x3), (4, .int x4), (5, .int x5)]) => ?_)
      refine lv_goto (tgt := 151) hx hb dX12_take_191 rfl ?_
      exact ih hP hF (lv_sub hl [1, 2, 3, 4, 5, 6, 0] rfl) h
set_option maxRecDepth 20000 in
set_option maxHeartbeats 4000000 in
theorem N_take_91 {p : Program} {l : Launch} {e : Env} {s : State} {m : MethodId} {args : Array Value} {below : List Frame} {meth : Method} {c : Code} {D : mD} {mb : Nat}  {n : Nat} {x1 : Int32} {x2 : Int32} {x3 : Int32} {x4 : Int32} {x5 : Int32} {x7 : Int32} {σ : mS} {H : Heap} {locs : List Loc} {ls : Array Slot} {q : Int32 × mS} (X : mX p s m args meth c cX12_take 8 (some .int) D) (hP : mP D mb σ H) (hF : mF mb s.heap H locs)  (hl : lv_has ls 8 [(0, .ref mb), (1, .int x1), (2, .int x2), (3, .int x3), (4, .int x4), (5, .int x5), (7, .int x7)]) (h : f_take_91  n x1 x2 x3 x4 x5 x7 σ = some q) : mWw p l e 9 205 s m args below meth c D mb q.2 (some (.int q.1)) H locs (F0 m 91 ls []) := by
  have hx := X.1
  have hb := X.2.1
  have hown := X.2.2.2.1
  have hts := X.2.2.2.2.1
  induction n generalizing x1 x2 x3 x4 x5 x7 σ H locs ls with
  | zero => exact absurd (show none = some q from h) (by simp)
  | succ n ih =>
    have h : ((rd σ 10 x2).bind (fun v1 => if v1 ≤ x7 then (f_take_194 (x1) (x2) (x3) (x4) (x5) σ) else ((rd σ 9 ((((30:Int32) * x2) + x7) + (1:Int32))).bind (fun v2 => (wr σ 9 (((30:Int32) * x2) + x7) v2).bind (fun s3 => f_take_91 n (x1) (x2) (x3) (x4) (x5) ((x7 + (1:Int32))) s3))))) = some q := h
    refine lv_iload hx hb dX12_take_91 (lv_at hl 6 rfl) ?_
    refine lv_aload_n hx hb dX12_take_93 rfl (lv_at hl 0 rfl) ?_
    refine mg_kids X hP dX12_take_94 ?_
    refine lv_iload_n hx hb dX12_take_97 rfl (lv_at hl 2 rfl) ?_
    obtain ⟨v1, hv1, h⟩ := ob h
    refine m_ald X hP hv1 dX12_take_98 ?_
    refine lv_icmp_ge (tgt := 134) hx hb dX12_take_99 rfl (fun hc => ?_) (fun hc => ?_)
    · have h := ip hc h
      refine lv_goto (tgt := 194) hx hb dX12_take_134 rfl ?_
      exact N_take_194 X hP hF (lv_sub hl [0, 1, 2, 3, 4, 5] rfl) h
    · have h := ine hc h
      refine lv_aload_n hx hb dX12_take_102 rfl (lv_at hl 0 rfl) ?_
      refine mg_kid X hP dX12_take_103 ?_
      refine lv_bipush (v := (30:Int32)) hx hb dX12_take_106 (by decide) ?_
      refine lv_iload_n hx hb dX12_take_108 rfl (lv_at hl 2 rfl) ?_
      refine lv_imul hx hb dX12_take_109 ?_
      refine lv_iload hx hb dX12_take_110 (lv_at hl 6 rfl) ?_
      refine lv_iadd hx hb dX12_take_112 ?_
      refine lv_aload_n hx hb dX12_take_113 rfl (lv_at hl 0 rfl) ?_
      refine mg_kid X hP dX12_take_114 ?_
      refine lv_bipush (v := (30:Int32)) hx hb dX12_take_117 (by decide) ?_
      refine lv_iload_n hx hb dX12_take_119 rfl (lv_at hl 2 rfl) ?_
      refine lv_imul hx hb dX12_take_120 ?_
      refine lv_iload hx hb dX12_take_121 (lv_at hl 6 rfl) ?_
      refine lv_iadd hx hb dX12_take_123 ?_
      refine lv_iconst (v := (1:Int32)) hx hb dX12_take_124 (by decide) ?_
      refine lv_iadd hx hb dX12_take_125 ?_
      obtain ⟨v2, hv2, h⟩ := ob h
      refine m_ald X hP hv2 dX12_take_126 ?_
      obtain ⟨s3, hs3, h⟩ := ob h
      refine m_ast X hP hF hs3 dX12_take_127 (fun H locs hP hF => ?_)
      refine lv_iinc (v := (x7 + (1:Int32))) hx hb dX12_take_128 hl (k := 6) rfl rfl (Nat.le_of_ble_eq_true rfl) rfl (fun ls (hl : lv_has ls 8 [(7, .int (x7 + (1:Int32))), (0, .ref mb), (1, .int x1), (2, .int x2), (3, .int x3), (4, .int x4), (5, .int x5)]) => ?_)
      refine lv_goto (tgt := 91) hx hb dX12_take_131 rfl ?_
      exact ih hP hF (lv_sub hl [1, 2, 3, 4, 5, 6, 0] rfl) h
set_option maxRecDepth 20000 in
set_option maxHeartbeats 4000000 in
theorem N_take_30 {p : Program} {l : Launch} {e : Env} {s : State} {m : MethodId} {args : Array Value} {below : List Frame} {meth : Method} {c : Code} {D : mD} {mb : Nat}   {x1 : Int32} {y1 : Int32} {σ : mS} {H : Heap} {locs : List Loc} {ls : Array Slot} {q : Int32 × mS} (X : mX p s m args meth c cX12_take 8 (some .int) D) (hP : mP D mb σ H) (hF : mF mb s.heap H locs)  (hl : lv_has ls 8 [(0, .ref mb), (1, .int x1)]) (h : f_take_30  x1 y1 σ = some q) : mWw p l e 9 205 s m args below meth c D mb q.2 (some (.int q.1)) H locs (F0 m 30 ls [.int y1, .ref mb]) := by
  have hx := X.1
  have hb := X.2.1
  have hown := X.2.2.2.1
  have hts := X.2.2.2.2.1
  have h : ((f_holds (y1) σ).bind (fun v1 => if v1.1 = (0:Int32) then ((rd v1.2 6 x1).bind (fun v2 => (rd v1.2 7 x1).bind (fun v3 => (f_treeOf (x1) v1.2).bind (fun v4 => (f_sibling (x1) v1.2).bind (fun v5 => (f_placeOf (x1) v1.2).bind (fun v6 => if v2 < (0:Int32) then ((rd v1.2 12 v3).bind (fun v7 => (wr v1.2 12 v3 (v7 - (1:Int32))).bind (fun s8 => f_take_151 4000 (x1) (v2) (v3) (v4) (v5) (v6) s8))) else ((rd v1.2 10 v2).bind (fun v9 => (wr v1.2 10 v2 (v9 - (1:Int32))).bind (fun s10 => f_take_91 4000 (x1) (v2) (v3) (v4) (v5) (v6) s10))))))))) else (some (((-1):Int32), v1.2)))) = some q := h
  obtain ⟨v1, hv1, h⟩ := ob h
  refine cl_holds X hP hF hv1 ⟨Nat.le_of_ble_eq_true rfl, Nat.le_of_ble_eq_true rfl⟩ hl.1 (Nat.le_of_ble_eq_true rfl) dX12_take_30 (fun H locs hP hF => ?_)
  refine lv_if_eq (tgt := 38) hx hb dX12_take_33 rfl (fun hc => ?_) (fun hc => ?_)
  · have h := ip hc h
    refine lv_aload_n hx hb dX12_take_38 rfl (lv_at hl 0 rfl) ?_
    refine mg_parent X hP dX12_take_39 ?_
    refine lv_iload_n hx hb dX12_take_42 rfl (lv_at hl 1 rfl) ?_
    obtain ⟨v2, hv2, h⟩ := ob h
    refine m_ald X hP hv2 dX12_take_43 ?_
    refine lv_istore_n hx hb dX12_take_44 rfl hl (Nat.le_of_ble_eq_true rfl) rfl (fun ls (hl : lv_has ls 8 [(2, .int v2), (0, .ref mb), (1, .int x1)]) => ?_)
    refine lv_aload_n hx hb dX12_take_45 rfl (lv_at hl 1 rfl) ?_
    refine mg_host X hP dX12_take_46 ?_
    refine lv_iload_n hx hb dX12_take_49 rfl (lv_at hl 2 rfl) ?_
    obtain ⟨v3, hv3, h⟩ := ob h
    refine m_ald X hP hv3 dX12_take_50 ?_
    refine lv_istore_n hx hb dX12_take_51 rfl hl (Nat.le_of_ble_eq_true rfl) rfl (fun ls (hl : lv_has ls 8 [(3, .int v3), (2, .int v2), (0, .ref mb), (1, .int x1)]) => ?_)
    refine lv_aload_n hx hb dX12_take_52 rfl (lv_at hl 2 rfl) ?_
    refine lv_iload_n hx hb dX12_take_53 rfl (lv_at hl 3 rfl) ?_
    obtain ⟨v4, hv4, h⟩ := ob h
    refine cl_treeOf X hP hv4 ⟨Nat.le_of_ble_eq_true rfl, Nat.le_of_ble_eq_true rfl⟩ hl.1 (Nat.le_of_ble_eq_true rfl) dX12_take_54 ?_
    refine lv_istore hx hb dX12_take_57 hl (Nat.le_of_ble_eq_true rfl) rfl (fun ls (hl : lv_has ls 8 [(4, .int v4), (3, .int v3), (2, .int v2), (0, .ref mb), (1, .int x1)]) => ?_)
    refine lv_aload_n hx hb dX12_take_59 rfl (lv_at hl 3 rfl) ?_
    refine lv_iload_n hx hb dX12_take_60 rfl (lv_at hl 4 rfl) ?_
    obtain ⟨v5, hv5, h⟩ := ob h
    refine cl_sibling X hP hv5 ⟨Nat.le_of_ble_eq_true rfl, Nat.le_of_ble_eq_true rfl⟩ hl.1 (Nat.le_of_ble_eq_true rfl) dX12_take_61 ?_
    refine lv_istore hx hb dX12_take_64 hl (Nat.le_of_ble_eq_true rfl) rfl (fun ls (hl : lv_has ls 8 [(5, .int v5), (4, .int v4), (3, .int v3), (2, .int v2), (0, .ref mb), (1, .int x1)]) => ?_)
    refine lv_aload_n hx hb dX12_take_66 rfl (lv_at hl 4 rfl) ?_
    refine lv_iload_n hx hb dX12_take_67 rfl (lv_at hl 5 rfl) ?_
    obtain ⟨v6, hv6, h⟩ := ob h
    refine cl_placeOf X hP hv6 ⟨Nat.le_of_ble_eq_true rfl, Nat.le_of_ble_eq_true rfl⟩ hl.1 (Nat.le_of_ble_eq_true rfl) dX12_take_68 ?_
    refine lv_istore hx hb dX12_take_71 hl (Nat.le_of_ble_eq_true rfl) rfl (fun ls (hl : lv_has ls 8 [(6, .int v6), (5, .int v5), (4, .int v4), (3, .int v3), (2, .int v2), (0, .ref mb), (1, .int x1)]) => ?_)
    refine lv_iload_n hx hb dX12_take_73 rfl (lv_at hl 4 rfl) ?_
    refine lv_if_lt (tgt := 137) hx hb dX12_take_74 rfl (fun hc => ?_) (fun hc => ?_)
    · have h := ip hc h
      refine lv_aload_n hx hb dX12_take_137 rfl (lv_at hl 5 rfl) ?_
      refine mg_tops X hP dX12_take_138 ?_
      refine lv_iload_n hx hb dX12_take_141 rfl (lv_at hl 3 rfl) ?_
      refine lv_dup2_11 hx hb dX12_take_142 rfl rfl ?_
      obtain ⟨v7, hv7, h⟩ := ob h
      refine m_ald X hP hv7 dX12_take_143 ?_
      refine lv_iconst (v := (1:Int32)) hx hb dX12_take_144 (by decide) ?_
      refine lv_isub hx hb dX12_take_145 ?_
      obtain ⟨s8, hs8, h⟩ := ob h
      refine m_ast X hP hF hs8 dX12_take_146 (fun H locs hP hF => ?_)
      refine lv_iload hx hb dX12_take_147 (lv_at hl 0 rfl) ?_
      refine lv_istore hx hb dX12_take_149 hl (Nat.le_of_ble_eq_true rfl) rfl (fun ls (hl : lv_has ls 8 [(7, .int v6), (6, .int v6), (5, .int v5), (4, .int v4), (3, .int v3), (2, .int v2), (0, .ref mb), (1, .int x1)]) => ?_)
      exact N_take_151 X hP hF (lv_sub hl [6, 7, 5, 4, 3, 2, 0] rfl) h
    · have h := ine hc h
      refine lv_aload_n hx hb dX12_take_77 rfl (lv_at hl 5 rfl) ?_
      refine mg_kids X hP dX12_take_78 ?_
      refine lv_iload_n hx hb dX12_take_81 rfl (lv_at hl 4 rfl) ?_
      refine lv_dup2_11 hx hb dX12_take_82 rfl rfl ?_
      obtain ⟨v9, hv9, h⟩ := ob h
      refine m_ald X hP hv9 dX12_take_83 ?_
      refine lv_iconst (v := (1:Int32)) hx hb dX12_take_84 (by decide) ?_
      refine lv_isub hx hb dX12_take_85 ?_
      obtain ⟨s10, hs10, h⟩ := ob h
      refine m_ast X hP hF hs10 dX12_take_86 (fun H locs hP hF => ?_)
      refine lv_iload hx hb dX12_take_87 (lv_at hl 0 rfl) ?_
      refine lv_istore hx hb dX12_take_89 hl (Nat.le_of_ble_eq_true rfl) rfl (fun ls (hl : lv_has ls 8 [(7, .int v6), (6, .int v6), (5, .int v5), (4, .int v4), (3, .int v3), (2, .int v2), (0, .ref mb), (1, .int x1)]) => ?_)
      exact N_take_91 X hP hF (lv_sub hl [6, 7, 5, 4, 3, 2, 0] rfl) h
  · have h := ine hc h
    refine lv_iconst (v := ((-1):Int32)) hx hb dX12_take_36 (by decide) ?_
    obtain rfl := sj h
    exact m_wi X hP hF dX12_take_37
set_option maxRecDepth 20000 in
set_option maxHeartbeats 4000000 in
theorem N_take_25 {p : Program} {l : Launch} {e : Env} {s : State} {m : MethodId} {args : Array Value} {below : List Frame} {meth : Method} {c : Code} {D : mD} {mb : Nat}   {x1 : Int32} {σ : mS} {H : Heap} {locs : List Loc} {ls : Array Slot} {q : Int32 × mS} (X : mX p s m args meth c cX12_take 8 (some .int) D) (hP : mP D mb σ H) (hF : mF mb s.heap H locs)  (hl : lv_has ls 8 [(0, .ref mb), (1, .int x1)]) (h : f_take_25  x1 σ = some q) : mWw p l e 9 205 s m args below meth c D mb q.2 (some (.int q.1)) H locs (F0 m 25 ls [.ref mb]) := by
  have hx := X.1
  have hb := X.2.1
  have hown := X.2.2.2.1
  have hts := X.2.2.2.2.1
  have h : (f_take_30 (x1) ((2:Int32)) σ) = some q := h
  refine lv_iconst (v := (2:Int32)) hx hb dX12_take_25 (by decide) ?_
  refine lv_goto (tgt := 30) hx hb dX12_take_26 rfl ?_
  exact N_take_30 X hP hF (lv_sub hl [0, 1] rfl) h
set_option maxRecDepth 20000 in
set_option maxHeartbeats 4000000 in
theorem K_take (l : Launch) (D : mD) (mb : Nat) (σ : mS) (x1 : Int32) {q : Int32 × mS} (h : f_take x1 σ = some q) : Met l yX12_take (Cond.code yX12_take cX12_take 8 (some .int) :: BG) (rM 9 205) (mPc D mb σ [.int x1]) (mQw D mb q.2 (some (.int q.1))) 0 0 (mReg mb) := by
  refine Met.ofW (cc := cX12_take) (maxL := 8) (ret := (some .int)) (by decide) rfl ?_
  intro p e s m args below meth c s₁ B hml hv
  obtain ⟨rfl, hP, hK⟩ := hv
  have X := mX_of B hml rfl hK
  have hx := X.1
  have hb := X.2.1
  have hown := X.2.2.2.1
  have hts := X.2.2.2.2.1
  have hl := lv_entry (.ref mb :: [.int x1]) (n := 8) (Nat.le_of_ble_eq_true rfl)
  rw [lg_entry_eq]
  generalize (lg_sl (.ref mb :: [.int x1]) ++ List.replicate (8 - (lg_sl (.ref mb :: [.int x1])).length) Slot.unset).toArray = ls at hl ⊢
  have hl : lv_has ls 8 [(0, .ref mb), (1, .int x1)] := hl
  have hF : mF mb s.heap s.heap [] := mF.rf
  show mWw p l e 9 205 s m (Value.ref mb :: [.int x1]).toArray below meth c D mb q.2 (some (.int q.1)) s.heap [] (F0 m 0 ls [])
  have h : ((f_isElement (x1) σ).bind (fun v1 => if v1 = (0:Int32) then (f_take_30 (x1) ((1:Int32)) σ) else (if x1 = (0:Int32) then (f_take_25 (x1) σ) else ((f_loose (x1) σ).bind (fun v2 => if v2 = (0:Int32) then (f_take_30 (x1) ((0:Int32)) σ) else (f_take_25 (x1) σ)))))) = some q := h
  refine lv_aload_n hx hb dX12_take_0 rfl (lv_at hl 0 rfl) ?_
  refine lv_aload_n hx hb dX12_take_1 rfl (lv_at hl 0 rfl) ?_
  refine lv_iload_n hx hb dX12_take_2 rfl (lv_at hl 1 rfl) ?_
  obtain ⟨v1, hv1, h⟩ := ob h
  refine cl_isElement X hP hv1 ⟨Nat.le_of_ble_eq_true rfl, Nat.le_of_ble_eq_true rfl⟩ hl.1 (Nat.le_of_ble_eq_true rfl) dX12_take_3 ?_
  refine lv_if_ne (tgt := 13) hx hb dX12_take_6 rfl (fun hc => ?_) (fun hc => ?_)
  · have h := ine hc h
    refine lv_iload_n hx hb dX12_take_13 rfl (lv_at hl 1 rfl) ?_
    refine lv_if_eq (tgt := 25) hx hb dX12_take_14 rfl (fun hc => ?_) (fun hc => ?_)
    · have h := ip hc h
      exact N_take_25 X hP hF (lv_sub hl [0, 1] rfl) h
    · have h := ine hc h
      refine lv_aload_n hx hb dX12_take_17 rfl (lv_at hl 0 rfl) ?_
      refine lv_iload_n hx hb dX12_take_18 rfl (lv_at hl 1 rfl) ?_
      obtain ⟨v2, hv2, h⟩ := ob h
      refine cl_loose X hP hv2 ⟨Nat.le_of_ble_eq_true rfl, Nat.le_of_ble_eq_true rfl⟩ hl.1 (Nat.le_of_ble_eq_true rfl) dX12_take_19 ?_
      refine lv_if_eq (tgt := 29) hx hb dX12_take_22 rfl (fun hc => ?_) (fun hc => ?_)
      · have h := ip hc h
        refine lv_iconst (v := (0:Int32)) hx hb dX12_take_29 (by decide) ?_
        exact N_take_30 X hP hF (lv_sub hl [0, 1] rfl) h
      · have h := ine hc h
        exact N_take_25 X hP hF (lv_sub hl [0, 1] rfl) h
  · have h := ip hc h
    refine lv_iconst (v := (1:Int32)) hx hb dX12_take_9 (by decide) ?_
    refine lv_goto (tgt := 30) hx hb dX12_take_10 rfl ?_
    exact N_take_30 X hP hF (lv_sub hl [0, 1] rfl) h
-- setClass(IIZ)Z
def f_setClass_84  (x1 : Int32) (x2 : Int32) (x4 : Int32) (y1 : Int32) (y2 : Int32) (σ : mS) : Option (Int32 × mS) := (wr σ 1 y1 y2).bind (fun s1 => (f_markTest (x1) (((1:Int32) <<< (x2 &&& 31))) s1).bind (fun v2 => rzw x4 v2))
def f_setClass_29  (x1 : Int32) (x2 : Int32) (x3 : Int32) (y1 : Int32) (σ : mS) : Option (Int32 × mS) := (f_holds (y1) σ).bind (fun v1 => if v1.1 = (0:Int32) then ((rd v1.2 1 x1).bind (fun v2 => (f_bit (v2) (x2)).bind (fun v3 => if x3 = (0:Int32) then ((rd v1.2 1 x1).bind (fun v4 => f_setClass_84 (x1) (x2) (v3) (x1) ((v4 &&& (((1:Int32) <<< (x2 &&& 31)) ^^^ ((-1):Int32)))) v1.2)) else ((rd v1.2 1 x1).bind (fun v5 => f_setClass_84 (x1) (x2) (v3) (x1) ((v5 ||| ((1:Int32) <<< (x2 &&& 31)))) v1.2))))) else (rzw (0:Int32) v1.2))
def f_setClass (x1 : Int32) (x2 : Int32) (x3 : Int32) (σ : mS) : Option (Int32 × mS) := (f_isElement (x1) σ).bind (fun v1 => if v1 = (0:Int32) then (f_setClass_29 (x1) (x2) (x3) ((1:Int32)) σ) else ((f_in (x2) ((0:Int32)) ((7:Int32))).bind (fun v2 => if v2 = (0:Int32) then (f_setClass_29 (x1) (x2) (x3) ((2:Int32)) σ) else (f_setClass_29 (x1) (x2) (x3) ((0:Int32)) σ))))
set_option maxRecDepth 20000 in
set_option maxHeartbeats 4000000 in
theorem N_setClass_84 {p : Program} {l : Launch} {e : Env} {s : State} {m : MethodId} {args : Array Value} {below : List Frame} {meth : Method} {c : Code} {D : mD} {mb : Nat}   {x1 : Int32} {x2 : Int32} {x4 : Int32} {y1 : Int32} {y2 : Int32} {σ : mS} {H : Heap} {locs : List Loc} {ls : Array Slot} {q : Int32 × mS} (X : mX p s m args meth c cX12_setClass 5 (some .boolean) D) (hP : mP D mb σ H) (hF : mF mb s.heap H locs)  (hl : lv_has ls 5 [(0, .ref mb), (1, .int x1), (2, .int x2), (4, .int x4)]) (h : f_setClass_84  x1 x2 x4 y1 y2 σ = some q) : mWw p l e 6 137 s m args below meth c D mb q.2 (some (.int q.1)) H locs (F0 m 84 ls [.int y2, .int y1, .ref (mA mb 1)]) := by
  have hx := X.1
  have hb := X.2.1
  have hown := X.2.2.2.1
  have hts := X.2.2.2.2.1
  have h : ((wr σ 1 y1 y2).bind (fun s1 => (f_markTest (x1) (((1:Int32) <<< (x2 &&& 31))) s1).bind (fun v2 => rzw x4 v2))) = some q := h
  obtain ⟨s1, hs1, h⟩ := ob h
  refine m_ast X hP hF hs1 dX12_setClass_84 (fun H locs hP hF => ?_)
  refine lv_aload_n hx hb dX12_setClass_85 rfl (lv_at hl 0 rfl) ?_
  refine lv_iload_n hx hb dX12_setClass_86 rfl (lv_at hl 1 rfl) ?_
  refine lv_iconst (v := (1:Int32)) hx hb dX12_setClass_87 (by decide) ?_
  refine lv_iload_n hx hb dX12_setClass_88 rfl (lv_at hl 2 rfl) ?_
  refine lv_ishl hx hb dX12_setClass_89 ?_
  obtain ⟨v2, hv2, h⟩ := ob h
  refine cl_markTest X hP hF hv2 ⟨Nat.le_of_ble_eq_true rfl, Nat.le_of_ble_eq_true rfl⟩ hl.1 (Nat.le_of_ble_eq_true rfl) dX12_setClass_90 (fun H locs hP hF => ?_)
  refine lv_iload hx hb dX12_setClass_93 (lv_at hl 3 rfl) ?_
  obtain ⟨hz, rfl⟩ := rzw_spec h
  exact m_wz X hz hP hF dX12_setClass_95
set_option maxRecDepth 20000 in
set_option maxHeartbeats 4000000 in
theorem N_setClass_29 {p : Program} {l : Launch} {e : Env} {s : State} {m : MethodId} {args : Array Value} {below : List Frame} {meth : Method} {c : Code} {D : mD} {mb : Nat}   {x1 : Int32} {x2 : Int32} {x3 : Int32} {y1 : Int32} {σ : mS} {H : Heap} {locs : List Loc} {ls : Array Slot} {q : Int32 × mS} (X : mX p s m args meth c cX12_setClass 5 (some .boolean) D) (hP : mP D mb σ H) (hF : mF mb s.heap H locs)  (hl : lv_has ls 5 [(0, .ref mb), (1, .int x1), (2, .int x2), (3, .int x3)]) (h : f_setClass_29  x1 x2 x3 y1 σ = some q) : mWw p l e 6 137 s m args below meth c D mb q.2 (some (.int q.1)) H locs (F0 m 29 ls [.int y1, .ref mb]) := by
  have hx := X.1
  have hb := X.2.1
  have hown := X.2.2.2.1
  have hts := X.2.2.2.2.1
  have h : ((f_holds (y1) σ).bind (fun v1 => if v1.1 = (0:Int32) then ((rd v1.2 1 x1).bind (fun v2 => (f_bit (v2) (x2)).bind (fun v3 => if x3 = (0:Int32) then ((rd v1.2 1 x1).bind (fun v4 => f_setClass_84 (x1) (x2) (v3) (x1) ((v4 &&& (((1:Int32) <<< (x2 &&& 31)) ^^^ ((-1):Int32)))) v1.2)) else ((rd v1.2 1 x1).bind (fun v5 => f_setClass_84 (x1) (x2) (v3) (x1) ((v5 ||| ((1:Int32) <<< (x2 &&& 31)))) v1.2))))) else (rzw (0:Int32) v1.2))) = some q := h
  obtain ⟨v1, hv1, h⟩ := ob h
  refine cl_holds X hP hF hv1 ⟨Nat.le_of_ble_eq_true rfl, Nat.le_of_ble_eq_true rfl⟩ hl.1 (Nat.le_of_ble_eq_true rfl) dX12_setClass_29 (fun H locs hP hF => ?_)
  refine lv_if_eq (tgt := 37) hx hb dX12_setClass_32 rfl (fun hc => ?_) (fun hc => ?_)
  · have h := ip hc h
    refine lv_aload_n hx hb dX12_setClass_37 rfl (lv_at hl 0 rfl) ?_
    refine lv_aload_n hx hb dX12_setClass_38 rfl (lv_at hl 0 rfl) ?_
    refine mg_cls X hP dX12_setClass_39 ?_
    refine lv_iload_n hx hb dX12_setClass_42 rfl (lv_at hl 1 rfl) ?_
    obtain ⟨v2, hv2, h⟩ := ob h
    refine m_ald X hP hv2 dX12_setClass_43 ?_
    refine lv_iload_n hx hb dX12_setClass_44 rfl (lv_at hl 2 rfl) ?_
    obtain ⟨v3, hv3, h⟩ := ob h
    refine cl_bit X hP hv3 ⟨Nat.le_of_ble_eq_true rfl, Nat.le_of_ble_eq_true rfl⟩ hl.1 (Nat.le_of_ble_eq_true rfl) dX12_setClass_45 ?_
    refine lv_istore hx hb dX12_setClass_48 hl (Nat.le_of_ble_eq_true rfl) rfl (fun ls (hl : lv_has ls 5 [(4, .int v3), (0, .ref mb), (1, .int x1), (2, .int x2), (3, .int x3)]) => ?_)
    refine lv_aload_n hx hb dX12_setClass_50 rfl (lv_at hl 1 rfl) ?_
    refine mg_cls X hP dX12_setClass_51 ?_
    refine lv_iload_n hx hb dX12_setClass_54 rfl (lv_at hl 2 rfl) ?_
    refine lv_iload_n hx hb dX12_setClass_55 rfl (lv_at hl 4 rfl) ?_
    refine lv_if_eq (tgt := 72) hx hb dX12_setClass_56 rfl (fun hc => ?_) (fun hc => ?_)
    · have h := ip hc h
      refine lv_aload_n hx hb dX12_setClass_72 rfl (lv_at hl 1 rfl) ?_
      refine mg_cls X hP dX12_setClass_73 ?_
      refine lv_iload_n hx hb dX12_setClass_76 rfl (lv_at hl 2 rfl) ?_
      obtain ⟨v4, hv4, h⟩ := ob h
      refine m_ald X hP hv4 dX12_setClass_77 ?_
      refine lv_iconst (v := (1:Int32)) hx hb dX12_setClass_78 (by decide) ?_
      refine lv_iload_n hx hb dX12_setClass_79 rfl (lv_at hl 3 rfl) ?_
      refine lv_ishl hx hb dX12_setClass_80 ?_
      refine lv_iconst (v := ((-1):Int32)) hx hb dX12_setClass_81 (by decide) ?_
      refine lv_ixor hx hb dX12_setClass_82 ?_
      refine lv_iand hx hb dX12_setClass_83 ?_
      exact N_setClass_84 X hP hF (lv_sub hl [1, 2, 3, 0] rfl) h
    · have h := ine hc h
      refine lv_aload_n hx hb dX12_setClass_59 rfl (lv_at hl 1 rfl) ?_
      refine mg_cls X hP dX12_setClass_60 ?_
      refine lv_iload_n hx hb dX12_setClass_63 rfl (lv_at hl 2 rfl) ?_
      obtain ⟨v5, hv5, h⟩ := ob h
      refine m_ald X hP hv5 dX12_setClass_64 ?_
      refine lv_iconst (v := (1:Int32)) hx hb dX12_setClass_65 (by decide) ?_
      refine lv_iload_n hx hb dX12_setClass_66 rfl (lv_at hl 3 rfl) ?_
      refine lv_ishl hx hb dX12_setClass_67 ?_
      refine lv_ior hx hb dX12_setClass_68 ?_
      refine lv_goto (tgt := 84) hx hb dX12_setClass_69 rfl ?_
      exact N_setClass_84 X hP hF (lv_sub hl [1, 2, 3, 0] rfl) h
  · have h := ine hc h
    refine lv_iconst (v := (0:Int32)) hx hb dX12_setClass_35 (by decide) ?_
    obtain ⟨hz, rfl⟩ := rzw_spec h
    exact m_wz X hz hP hF dX12_setClass_36
set_option maxRecDepth 20000 in
set_option maxHeartbeats 4000000 in
theorem K_setClass (l : Launch) (D : mD) (mb : Nat) (σ : mS) (x1 : Int32) (x2 : Int32) (x3 : Int32) {q : Int32 × mS} (h : f_setClass x1 x2 x3 σ = some q) : Met l yX12_setClass (Cond.code yX12_setClass cX12_setClass 5 (some .boolean) :: BG) (rM 6 137) (mPc D mb σ [.int x1, .int x2, .int x3]) (mQw D mb q.2 (some (.int q.1))) 0 0 (mReg mb) := by
  refine Met.ofW (cc := cX12_setClass) (maxL := 5) (ret := (some .boolean)) (by decide) rfl ?_
  intro p e s m args below meth c s₁ B hml hv
  obtain ⟨rfl, hP, hK⟩ := hv
  have X := mX_of B hml rfl hK
  have hx := X.1
  have hb := X.2.1
  have hown := X.2.2.2.1
  have hts := X.2.2.2.2.1
  have hl := lv_entry (.ref mb :: [.int x1, .int x2, .int x3]) (n := 5) (Nat.le_of_ble_eq_true rfl)
  rw [lg_entry_eq]
  generalize (lg_sl (.ref mb :: [.int x1, .int x2, .int x3]) ++ List.replicate (5 - (lg_sl (.ref mb :: [.int x1, .int x2, .int x3])).length) Slot.unset).toArray = ls at hl ⊢
  have hl : lv_has ls 5 [(0, .ref mb), (1, .int x1), (2, .int x2), (3, .int x3)] := hl
  have hF : mF mb s.heap s.heap [] := mF.rf
  show mWw p l e 6 137 s m (Value.ref mb :: [.int x1, .int x2, .int x3]).toArray below meth c D mb q.2 (some (.int q.1)) s.heap [] (F0 m 0 ls [])
  have h : ((f_isElement (x1) σ).bind (fun v1 => if v1 = (0:Int32) then (f_setClass_29 (x1) (x2) (x3) ((1:Int32)) σ) else ((f_in (x2) ((0:Int32)) ((7:Int32))).bind (fun v2 => if v2 = (0:Int32) then (f_setClass_29 (x1) (x2) (x3) ((2:Int32)) σ) else (f_setClass_29 (x1) (x2) (x3) ((0:Int32)) σ))))) = some q := h
  refine lv_aload_n hx hb dX12_setClass_0 rfl (lv_at hl 0 rfl) ?_
  refine lv_aload_n hx hb dX12_setClass_1 rfl (lv_at hl 0 rfl) ?_
  refine lv_iload_n hx hb dX12_setClass_2 rfl (lv_at hl 1 rfl) ?_
  obtain ⟨v1, hv1, h⟩ := ob h
  refine cl_isElement X hP hv1 ⟨Nat.le_of_ble_eq_true rfl, Nat.le_of_ble_eq_true rfl⟩ hl.1 (Nat.le_of_ble_eq_true rfl) dX12_setClass_3 ?_
  refine lv_if_ne (tgt := 13) hx hb dX12_setClass_6 rfl (fun hc => ?_) (fun hc => ?_)
  · have h := ine hc h
    refine lv_aload_n hx hb dX12_setClass_13 rfl (lv_at hl 0 rfl) ?_
    refine lv_iload_n hx hb dX12_setClass_14 rfl (lv_at hl 2 rfl) ?_
    refine lv_iconst (v := (0:Int32)) hx hb dX12_setClass_15 (by decide) ?_
    refine lv_bipush (v := (7:Int32)) hx hb dX12_setClass_16 (by decide) ?_
    obtain ⟨v2, hv2, h⟩ := ob h
    refine cl_in X hP hv2 ⟨Nat.le_of_ble_eq_true rfl, Nat.le_of_ble_eq_true rfl⟩ hl.1 (Nat.le_of_ble_eq_true rfl) dX12_setClass_18 ?_
    refine lv_if_eq (tgt := 28) hx hb dX12_setClass_21 rfl (fun hc => ?_) (fun hc => ?_)
    · have h := ip hc h
      refine lv_iconst (v := (2:Int32)) hx hb dX12_setClass_28 (by decide) ?_
      exact N_setClass_29 X hP hF (lv_sub hl [0, 1, 2, 3] rfl) h
    · have h := ine hc h
      refine lv_iconst (v := (0:Int32)) hx hb dX12_setClass_24 (by decide) ?_
      refine lv_goto (tgt := 29) hx hb dX12_setClass_25 rfl ?_
      exact N_setClass_29 X hP hF (lv_sub hl [0, 1, 2, 3] rfl) h
  · have h := ip hc h
    refine lv_iconst (v := (1:Int32)) hx hb dX12_setClass_9 (by decide) ?_
    refine lv_goto (tgt := 29) hx hb dX12_setClass_10 rfl ?_
    exact N_setClass_29 X hP hF (lv_sub hl [0, 1, 2, 3] rfl) h
-- setState(IIZ)Z
def f_setState_83  (x1 : Int32) (x2 : Int32) (x4 : Int32) (y1 : Int32) (y2 : Int32) (σ : mS) : Option (Int32 × mS) := (wr σ 2 y1 y2).bind (fun s1 => (f_markTest (x1) (((256:Int32) <<< (x2 &&& 31))) s1).bind (fun v2 => rzw x4 v2))
def f_setState_28  (x1 : Int32) (x2 : Int32) (x3 : Int32) (y1 : Int32) (σ : mS) : Option (Int32 × mS) := (f_holds (y1) σ).bind (fun v1 => if v1.1 = (0:Int32) then ((rd v1.2 2 x1).bind (fun v2 => (f_bit (v2) (x2)).bind (fun v3 => if x3 = (0:Int32) then ((rd v1.2 2 x1).bind (fun v4 => f_setState_83 (x1) (x2) (v3) (x1) ((v4 &&& (((1:Int32) <<< (x2 &&& 31)) ^^^ ((-1):Int32)))) v1.2)) else ((rd v1.2 2 x1).bind (fun v5 => f_setState_83 (x1) (x2) (v3) (x1) ((v5 ||| ((1:Int32) <<< (x2 &&& 31)))) v1.2))))) else (rzw (0:Int32) v1.2))
def f_setState (x1 : Int32) (x2 : Int32) (x3 : Int32) (σ : mS) : Option (Int32 × mS) := (f_isElement (x1) σ).bind (fun v1 => if v1 = (0:Int32) then (f_setState_28 (x1) (x2) (x3) ((1:Int32)) σ) else ((f_in (x2) ((0:Int32)) ((3:Int32))).bind (fun v2 => if v2 = (0:Int32) then (f_setState_28 (x1) (x2) (x3) ((2:Int32)) σ) else (f_setState_28 (x1) (x2) (x3) ((0:Int32)) σ))))
set_option maxRecDepth 20000 in
set_option maxHeartbeats 4000000 in
theorem N_setState_83 {p : Program} {l : Launch} {e : Env} {s : State} {m : MethodId} {args : Array Value} {below : List Frame} {meth : Method} {c : Code} {D : mD} {mb : Nat}   {x1 : Int32} {x2 : Int32} {x4 : Int32} {y1 : Int32} {y2 : Int32} {σ : mS} {H : Heap} {locs : List Loc} {ls : Array Slot} {q : Int32 × mS} (X : mX p s m args meth c cX12_setState 5 (some .boolean) D) (hP : mP D mb σ H) (hF : mF mb s.heap H locs)  (hl : lv_has ls 5 [(0, .ref mb), (1, .int x1), (2, .int x2), (4, .int x4)]) (h : f_setState_83  x1 x2 x4 y1 y2 σ = some q) : mWw p l e 6 137 s m args below meth c D mb q.2 (some (.int q.1)) H locs (F0 m 83 ls [.int y2, .int y1, .ref (mA mb 2)]) := by
  have hx := X.1
  have hb := X.2.1
  have hown := X.2.2.2.1
  have hts := X.2.2.2.2.1
  have h : ((wr σ 2 y1 y2).bind (fun s1 => (f_markTest (x1) (((256:Int32) <<< (x2 &&& 31))) s1).bind (fun v2 => rzw x4 v2))) = some q := h
  obtain ⟨s1, hs1, h⟩ := ob h
  refine m_ast X hP hF hs1 dX12_setState_83 (fun H locs hP hF => ?_)
  refine lv_aload_n hx hb dX12_setState_84 rfl (lv_at hl 0 rfl) ?_
  refine lv_iload_n hx hb dX12_setState_85 rfl (lv_at hl 1 rfl) ?_
  refine lv_sipush (v := (256:Int32)) hx hb dX12_setState_86 (by decide) ?_
  refine lv_iload_n hx hb dX12_setState_89 rfl (lv_at hl 2 rfl) ?_
  refine lv_ishl hx hb dX12_setState_90 ?_
  obtain ⟨v2, hv2, h⟩ := ob h
  refine cl_markTest X hP hF hv2 ⟨Nat.le_of_ble_eq_true rfl, Nat.le_of_ble_eq_true rfl⟩ hl.1 (Nat.le_of_ble_eq_true rfl) dX12_setState_91 (fun H locs hP hF => ?_)
  refine lv_iload hx hb dX12_setState_94 (lv_at hl 3 rfl) ?_
  obtain ⟨hz, rfl⟩ := rzw_spec h
  exact m_wz X hz hP hF dX12_setState_96
set_option maxRecDepth 20000 in
set_option maxHeartbeats 4000000 in
theorem N_setState_28 {p : Program} {l : Launch} {e : Env} {s : State} {m : MethodId} {args : Array Value} {below : List Frame} {meth : Method} {c : Code} {D : mD} {mb : Nat}   {x1 : Int32} {x2 : Int32} {x3 : Int32} {y1 : Int32} {σ : mS} {H : Heap} {locs : List Loc} {ls : Array Slot} {q : Int32 × mS} (X : mX p s m args meth c cX12_setState 5 (some .boolean) D) (hP : mP D mb σ H) (hF : mF mb s.heap H locs)  (hl : lv_has ls 5 [(0, .ref mb), (1, .int x1), (2, .int x2), (3, .int x3)]) (h : f_setState_28  x1 x2 x3 y1 σ = some q) : mWw p l e 6 137 s m args below meth c D mb q.2 (some (.int q.1)) H locs (F0 m 28 ls [.int y1, .ref mb]) := by
  have hx := X.1
  have hb := X.2.1
  have hown := X.2.2.2.1
  have hts := X.2.2.2.2.1
  have h : ((f_holds (y1) σ).bind (fun v1 => if v1.1 = (0:Int32) then ((rd v1.2 2 x1).bind (fun v2 => (f_bit (v2) (x2)).bind (fun v3 => if x3 = (0:Int32) then ((rd v1.2 2 x1).bind (fun v4 => f_setState_83 (x1) (x2) (v3) (x1) ((v4 &&& (((1:Int32) <<< (x2 &&& 31)) ^^^ ((-1):Int32)))) v1.2)) else ((rd v1.2 2 x1).bind (fun v5 => f_setState_83 (x1) (x2) (v3) (x1) ((v5 ||| ((1:Int32) <<< (x2 &&& 31)))) v1.2))))) else (rzw (0:Int32) v1.2))) = some q := h
  obtain ⟨v1, hv1, h⟩ := ob h
  refine cl_holds X hP hF hv1 ⟨Nat.le_of_ble_eq_true rfl, Nat.le_of_ble_eq_true rfl⟩ hl.1 (Nat.le_of_ble_eq_true rfl) dX12_setState_28 (fun H locs hP hF => ?_)
  refine lv_if_eq (tgt := 36) hx hb dX12_setState_31 rfl (fun hc => ?_) (fun hc => ?_)
  · have h := ip hc h
    refine lv_aload_n hx hb dX12_setState_36 rfl (lv_at hl 0 rfl) ?_
    refine lv_aload_n hx hb dX12_setState_37 rfl (lv_at hl 0 rfl) ?_
    refine mg_sta X hP dX12_setState_38 ?_
    refine lv_iload_n hx hb dX12_setState_41 rfl (lv_at hl 1 rfl) ?_
    obtain ⟨v2, hv2, h⟩ := ob h
    refine m_ald X hP hv2 dX12_setState_42 ?_
    refine lv_iload_n hx hb dX12_setState_43 rfl (lv_at hl 2 rfl) ?_
    obtain ⟨v3, hv3, h⟩ := ob h
    refine cl_bit X hP hv3 ⟨Nat.le_of_ble_eq_true rfl, Nat.le_of_ble_eq_true rfl⟩ hl.1 (Nat.le_of_ble_eq_true rfl) dX12_setState_44 ?_
    refine lv_istore hx hb dX12_setState_47 hl (Nat.le_of_ble_eq_true rfl) rfl (fun ls (hl : lv_has ls 5 [(4, .int v3), (0, .ref mb), (1, .int x1), (2, .int x2), (3, .int x3)]) => ?_)
    refine lv_aload_n hx hb dX12_setState_49 rfl (lv_at hl 1 rfl) ?_
    refine mg_sta X hP dX12_setState_50 ?_
    refine lv_iload_n hx hb dX12_setState_53 rfl (lv_at hl 2 rfl) ?_
    refine lv_iload_n hx hb dX12_setState_54 rfl (lv_at hl 4 rfl) ?_
    refine lv_if_eq (tgt := 71) hx hb dX12_setState_55 rfl (fun hc => ?_) (fun hc => ?_)
    · have h := ip hc h
      refine lv_aload_n hx hb dX12_setState_71 rfl (lv_at hl 1 rfl) ?_
      refine mg_sta X hP dX12_setState_72 ?_
      refine lv_iload_n hx hb dX12_setState_75 rfl (lv_at hl 2 rfl) ?_
      obtain ⟨v4, hv4, h⟩ := ob h
      refine m_ald X hP hv4 dX12_setState_76 ?_
      refine lv_iconst (v := (1:Int32)) hx hb dX12_setState_77 (by decide) ?_
      refine lv_iload_n hx hb dX12_setState_78 rfl (lv_at hl 3 rfl) ?_
      refine lv_ishl hx hb dX12_setState_79 ?_
      refine lv_iconst (v := ((-1):Int32)) hx hb dX12_setState_80 (by decide) ?_
      refine lv_ixor hx hb dX12_setState_81 ?_
      refine lv_iand hx hb dX12_setState_82 ?_
      exact N_setState_83 X hP hF (lv_sub hl [1, 2, 3, 0] rfl) h
    · have h := ine hc h
      refine lv_aload_n hx hb dX12_setState_58 rfl (lv_at hl 1 rfl) ?_
      refine mg_sta X hP dX12_setState_59 ?_
      refine lv_iload_n hx hb dX12_setState_62 rfl (lv_at hl 2 rfl) ?_
      obtain ⟨v5, hv5, h⟩ := ob h
      refine m_ald X hP hv5 dX12_setState_63 ?_
      refine lv_iconst (v := (1:Int32)) hx hb dX12_setState_64 (by decide) ?_
      refine lv_iload_n hx hb dX12_setState_65 rfl (lv_at hl 3 rfl) ?_
      refine lv_ishl hx hb dX12_setState_66 ?_
      refine lv_ior hx hb dX12_setState_67 ?_
      refine lv_goto (tgt := 83) hx hb dX12_setState_68 rfl ?_
      exact N_setState_83 X hP hF (lv_sub hl [1, 2, 3, 0] rfl) h
  · have h := ine hc h
    refine lv_iconst (v := (0:Int32)) hx hb dX12_setState_34 (by decide) ?_
    obtain ⟨hz, rfl⟩ := rzw_spec h
    exact m_wz X hz hP hF dX12_setState_35
set_option maxRecDepth 20000 in
set_option maxHeartbeats 4000000 in
theorem K_setState (l : Launch) (D : mD) (mb : Nat) (σ : mS) (x1 : Int32) (x2 : Int32) (x3 : Int32) {q : Int32 × mS} (h : f_setState x1 x2 x3 σ = some q) : Met l yX12_setState (Cond.code yX12_setState cX12_setState 5 (some .boolean) :: BG) (rM 6 137) (mPc D mb σ [.int x1, .int x2, .int x3]) (mQw D mb q.2 (some (.int q.1))) 0 0 (mReg mb) := by
  refine Met.ofW (cc := cX12_setState) (maxL := 5) (ret := (some .boolean)) (by decide) rfl ?_
  intro p e s m args below meth c s₁ B hml hv
  obtain ⟨rfl, hP, hK⟩ := hv
  have X := mX_of B hml rfl hK
  have hx := X.1
  have hb := X.2.1
  have hown := X.2.2.2.1
  have hts := X.2.2.2.2.1
  have hl := lv_entry (.ref mb :: [.int x1, .int x2, .int x3]) (n := 5) (Nat.le_of_ble_eq_true rfl)
  rw [lg_entry_eq]
  generalize (lg_sl (.ref mb :: [.int x1, .int x2, .int x3]) ++ List.replicate (5 - (lg_sl (.ref mb :: [.int x1, .int x2, .int x3])).length) Slot.unset).toArray = ls at hl ⊢
  have hl : lv_has ls 5 [(0, .ref mb), (1, .int x1), (2, .int x2), (3, .int x3)] := hl
  have hF : mF mb s.heap s.heap [] := mF.rf
  show mWw p l e 6 137 s m (Value.ref mb :: [.int x1, .int x2, .int x3]).toArray below meth c D mb q.2 (some (.int q.1)) s.heap [] (F0 m 0 ls [])
  have h : ((f_isElement (x1) σ).bind (fun v1 => if v1 = (0:Int32) then (f_setState_28 (x1) (x2) (x3) ((1:Int32)) σ) else ((f_in (x2) ((0:Int32)) ((3:Int32))).bind (fun v2 => if v2 = (0:Int32) then (f_setState_28 (x1) (x2) (x3) ((2:Int32)) σ) else (f_setState_28 (x1) (x2) (x3) ((0:Int32)) σ))))) = some q := h
  refine lv_aload_n hx hb dX12_setState_0 rfl (lv_at hl 0 rfl) ?_
  refine lv_aload_n hx hb dX12_setState_1 rfl (lv_at hl 0 rfl) ?_
  refine lv_iload_n hx hb dX12_setState_2 rfl (lv_at hl 1 rfl) ?_
  obtain ⟨v1, hv1, h⟩ := ob h
  refine cl_isElement X hP hv1 ⟨Nat.le_of_ble_eq_true rfl, Nat.le_of_ble_eq_true rfl⟩ hl.1 (Nat.le_of_ble_eq_true rfl) dX12_setState_3 ?_
  refine lv_if_ne (tgt := 13) hx hb dX12_setState_6 rfl (fun hc => ?_) (fun hc => ?_)
  · have h := ine hc h
    refine lv_aload_n hx hb dX12_setState_13 rfl (lv_at hl 0 rfl) ?_
    refine lv_iload_n hx hb dX12_setState_14 rfl (lv_at hl 2 rfl) ?_
    refine lv_iconst (v := (0:Int32)) hx hb dX12_setState_15 (by decide) ?_
    refine lv_iconst (v := (3:Int32)) hx hb dX12_setState_16 (by decide) ?_
    obtain ⟨v2, hv2, h⟩ := ob h
    refine cl_in X hP hv2 ⟨Nat.le_of_ble_eq_true rfl, Nat.le_of_ble_eq_true rfl⟩ hl.1 (Nat.le_of_ble_eq_true rfl) dX12_setState_17 ?_
    refine lv_if_eq (tgt := 27) hx hb dX12_setState_20 rfl (fun hc => ?_) (fun hc => ?_)
    · have h := ip hc h
      refine lv_iconst (v := (2:Int32)) hx hb dX12_setState_27 (by decide) ?_
      exact N_setState_28 X hP hF (lv_sub hl [0, 1, 2, 3] rfl) h
    · have h := ine hc h
      refine lv_iconst (v := (0:Int32)) hx hb dX12_setState_23 (by decide) ?_
      refine lv_goto (tgt := 28) hx hb dX12_setState_24 rfl ?_
      exact N_setState_28 X hP hF (lv_sub hl [0, 1, 2, 3] rfl) h
  · have h := ip hc h
    refine lv_iconst (v := (1:Int32)) hx hb dX12_setState_9 (by decide) ?_
    refine lv_goto (tgt := 28) hx hb dX12_setState_10 rfl ?_
    exact N_setState_28 X hP hF (lv_sub hl [0, 1, 2, 3] rfl) h
-- setAttribute(III)I
def f_setAttribute_104  (x1 : Int32) (x2 : Int32) (x4 : Int32) (σ : mS) : Option (Int32 × mS) := (f_markTest (x1) (((4096:Int32) <<< (x2 &&& 31))) σ).bind (fun v1 => some (x4, v1))
def f_setAttribute_66  (x1 : Int32) (x2 : Int32) (x3 : Int32) (y0 : Int32) (σ : mS) : Option (Int32 × mS) := if x2 = (0:Int32) then ((wr σ 3 x1 x3).bind (fun s5 => f_setAttribute_104 (x1) (x2) (y0) s5)) else ((wr σ 4 x1 x3).bind (fun s1 => (rd s1 6 x1).bind (fun v2 => (f_treeOf (x1) s1).bind (fun v3 => (f_markHosts (v2) (v3) s1).bind (fun v4 => f_setAttribute_104 (x1) (x2) (y0) v4)))))
def f_setAttribute_39  (x1 : Int32) (x2 : Int32) (x3 : Int32) (y1 : Int32) (σ : mS) : Option (Int32 × mS) := (f_holds (y1) σ).bind (fun v1 => if v1.1 = (0:Int32) then (if x2 = (0:Int32) then ((rd v1.2 3 x1).bind (fun v3 => f_setAttribute_66 (x1) (x2) (x3) (v3) v1.2)) else ((rd v1.2 4 x1).bind (fun v2 => f_setAttribute_66 (x1) (x2) (x3) (v2) v1.2))) else (some (((-1):Int32), v1.2)))
def f_setAttribute_38  (x1 : Int32) (x2 : Int32) (x3 : Int32) (σ : mS) : Option (Int32 × mS) := f_setAttribute_39 (x1) (x2) (x3) ((2:Int32)) σ
def f_setAttribute (x1 : Int32) (x2 : Int32) (x3 : Int32) (σ : mS) : Option (Int32 × mS) := (f_isElement (x1) σ).bind (fun v1 => if v1 = (0:Int32) then (f_setAttribute_39 (x1) (x2) (x3) ((1:Int32)) σ) else ((f_in (x2) ((0:Int32)) ((1:Int32))).bind (fun v2 => if v2 = (0:Int32) then (f_setAttribute_38 (x1) (x2) (x3) σ) else ((f_in (x3) (((-1):Int32)) ((9:Int32))).bind (fun v3 => if v3 = (0:Int32) then (f_setAttribute_38 (x1) (x2) (x3) σ) else (f_setAttribute_39 (x1) (x2) (x3) ((0:Int32)) σ))))))
set_option maxRecDepth 20000 in
set_option maxHeartbeats 4000000 in
theorem N_setAttribute_104 {p : Program} {l : Launch} {e : Env} {s : State} {m : MethodId} {args : Array Value} {below : List Frame} {meth : Method} {c : Code} {D : mD} {mb : Nat}   {x1 : Int32} {x2 : Int32} {x4 : Int32} {σ : mS} {H : Heap} {locs : List Loc} {ls : Array Slot} {q : Int32 × mS} (X : mX p s m args meth c cX12_setAttribute 5 (some .int) D) (hP : mP D mb σ H) (hF : mF mb s.heap H locs)  (hl : lv_has ls 5 [(0, .ref mb), (1, .int x1), (2, .int x2), (4, .int x4)]) (h : f_setAttribute_104  x1 x2 x4 σ = some q) : mWw p l e 8 180 s m args below meth c D mb q.2 (some (.int q.1)) H locs (F0 m 104 ls []) := by
  have hx := X.1
  have hb := X.2.1
  have hown := X.2.2.2.1
  have hts := X.2.2.2.2.1
  have h : ((f_markTest (x1) (((4096:Int32) <<< (x2 &&& 31))) σ).bind (fun v1 => some (x4, v1))) = some q := h
  refine lv_aload_n hx hb dX12_setAttribute_104 rfl (lv_at hl 0 rfl) ?_
  refine lv_iload_n hx hb dX12_setAttribute_105 rfl (lv_at hl 1 rfl) ?_
  refine lv_sipush (v := (4096:Int32)) hx hb dX12_setAttribute_106 (by decide) ?_
  refine lv_iload_n hx hb dX12_setAttribute_109 rfl (lv_at hl 2 rfl) ?_
  refine lv_ishl hx hb dX12_setAttribute_110 ?_
  obtain ⟨v1, hv1, h⟩ := ob h
  refine cl_markTest X hP hF hv1 ⟨Nat.le_of_ble_eq_true rfl, Nat.le_of_ble_eq_true rfl⟩ hl.1 (Nat.le_of_ble_eq_true rfl) dX12_setAttribute_111 (fun H locs hP hF => ?_)
  refine lv_iload hx hb dX12_setAttribute_114 (lv_at hl 3 rfl) ?_
  obtain rfl := sj h
  exact m_wi X hP hF dX12_setAttribute_116
set_option maxRecDepth 20000 in
set_option maxHeartbeats 4000000 in
theorem N_setAttribute_66 {p : Program} {l : Launch} {e : Env} {s : State} {m : MethodId} {args : Array Value} {below : List Frame} {meth : Method} {c : Code} {D : mD} {mb : Nat}   {x1 : Int32} {x2 : Int32} {x3 : Int32} {y0 : Int32} {σ : mS} {H : Heap} {locs : List Loc} {ls : Array Slot} {q : Int32 × mS} (X : mX p s m args meth c cX12_setAttribute 5 (some .int) D) (hP : mP D mb σ H) (hF : mF mb s.heap H locs)  (hl : lv_has ls 5 [(0, .ref mb), (1, .int x1), (2, .int x2), (3, .int x3)]) (h : f_setAttribute_66  x1 x2 x3 y0 σ = some q) : mWw p l e 8 180 s m args below meth c D mb q.2 (some (.int q.1)) H locs (F0 m 66 ls [.int y0]) := by
  have hx := X.1
  have hb := X.2.1
  have hown := X.2.2.2.1
  have hts := X.2.2.2.2.1
  have h : (if x2 = (0:Int32) then ((wr σ 3 x1 x3).bind (fun s5 => f_setAttribute_104 (x1) (x2) (y0) s5)) else ((wr σ 4 x1 x3).bind (fun s1 => (rd s1 6 x1).bind (fun v2 => (f_treeOf (x1) s1).bind (fun v3 => (f_markHosts (v2) (v3) s1).bind (fun v4 => f_setAttribute_104 (x1) (x2) (y0) v4)))))) = some q := h
  refine lv_istore hx hb dX12_setAttribute_66 hl (Nat.le_of_ble_eq_true rfl) rfl (fun ls (hl : lv_has ls 5 [(4, .int y0), (0, .ref mb), (1, .int x1), (2, .int x2), (3, .int x3)]) => ?_)
  refine lv_iload_n hx hb dX12_setAttribute_68 rfl (lv_at hl 3 rfl) ?_
  refine lv_if_ne (tgt := 82) hx hb dX12_setAttribute_69 rfl (fun hc => ?_) (fun hc => ?_)
  · have h := ine hc h
    refine lv_aload_n hx hb dX12_setAttribute_82 rfl (lv_at hl 1 rfl) ?_
    refine mg_at1 X hP dX12_setAttribute_83 ?_
    refine lv_iload_n hx hb dX12_setAttribute_86 rfl (lv_at hl 2 rfl) ?_
    refine lv_iload_n hx hb dX12_setAttribute_87 rfl (lv_at hl 4 rfl) ?_
    obtain ⟨s1, hs1, h⟩ := ob h
    refine m_ast X hP hF hs1 dX12_setAttribute_88 (fun H locs hP hF => ?_)
    refine lv_aload_n hx hb dX12_setAttribute_89 rfl (lv_at hl 1 rfl) ?_
    refine lv_aload_n hx hb dX12_setAttribute_90 rfl (lv_at hl 1 rfl) ?_
    refine mg_parent X hP dX12_setAttribute_91 ?_
    refine lv_iload_n hx hb dX12_setAttribute_94 rfl (lv_at hl 2 rfl) ?_
    obtain ⟨v2, hv2, h⟩ := ob h
    refine m_ald X hP hv2 dX12_setAttribute_95 ?_
    refine lv_aload_n hx hb dX12_setAttribute_96 rfl (lv_at hl 1 rfl) ?_
    refine lv_iload_n hx hb dX12_setAttribute_97 rfl (lv_at hl 2 rfl) ?_
    obtain ⟨v3, hv3, h⟩ := ob h
    refine cl_treeOf X hP hv3 ⟨Nat.le_of_ble_eq_true rfl, Nat.le_of_ble_eq_true rfl⟩ hl.1 (Nat.le_of_ble_eq_true rfl) dX12_setAttribute_98 ?_
    obtain ⟨v4, hv4, h⟩ := ob h
    refine cl_markHosts X hP hF hv4 ⟨Nat.le_of_ble_eq_true rfl, Nat.le_of_ble_eq_true rfl⟩ hl.1 (Nat.le_of_ble_eq_true rfl) dX12_setAttribute_101 (fun H locs hP hF => ?_)
    exact N_setAttribute_104 X hP hF (lv_sub hl [1, 2, 3, 0] rfl) h
  · have h := ip hc h
    refine lv_aload_n hx hb dX12_setAttribute_72 rfl (lv_at hl 1 rfl) ?_
    refine mg_at0 X hP dX12_setAttribute_73 ?_
    refine lv_iload_n hx hb dX12_setAttribute_76 rfl (lv_at hl 2 rfl) ?_
    refine lv_iload_n hx hb dX12_setAttribute_77 rfl (lv_at hl 4 rfl) ?_
    obtain ⟨s5, hs5, h⟩ := ob h
    refine m_ast X hP hF hs5 dX12_setAttribute_78 (fun H locs hP hF => ?_)
    refine lv_goto (tgt := 104) hx hb dX12_setAttribute_79 rfl ?_
    exact N_setAttribute_104 X hP hF (lv_sub hl [1, 2, 3, 0] rfl) h
set_option maxRecDepth 20000 in
set_option maxHeartbeats 4000000 in
theorem N_setAttribute_39 {p : Program} {l : Launch} {e : Env} {s : State} {m : MethodId} {args : Array Value} {below : List Frame} {meth : Method} {c : Code} {D : mD} {mb : Nat}   {x1 : Int32} {x2 : Int32} {x3 : Int32} {y1 : Int32} {σ : mS} {H : Heap} {locs : List Loc} {ls : Array Slot} {q : Int32 × mS} (X : mX p s m args meth c cX12_setAttribute 5 (some .int) D) (hP : mP D mb σ H) (hF : mF mb s.heap H locs)  (hl : lv_has ls 5 [(0, .ref mb), (1, .int x1), (2, .int x2), (3, .int x3)]) (h : f_setAttribute_39  x1 x2 x3 y1 σ = some q) : mWw p l e 8 180 s m args below meth c D mb q.2 (some (.int q.1)) H locs (F0 m 39 ls [.int y1, .ref mb]) := by
  have hx := X.1
  have hb := X.2.1
  have hown := X.2.2.2.1
  have hts := X.2.2.2.2.1
  have h : ((f_holds (y1) σ).bind (fun v1 => if v1.1 = (0:Int32) then (if x2 = (0:Int32) then ((rd v1.2 3 x1).bind (fun v3 => f_setAttribute_66 (x1) (x2) (x3) (v3) v1.2)) else ((rd v1.2 4 x1).bind (fun v2 => f_setAttribute_66 (x1) (x2) (x3) (v2) v1.2))) else (some (((-1):Int32), v1.2)))) = some q := h
  obtain ⟨v1, hv1, h⟩ := ob h
  refine cl_holds X hP hF hv1 ⟨Nat.le_of_ble_eq_true rfl, Nat.le_of_ble_eq_true rfl⟩ hl.1 (Nat.le_of_ble_eq_true rfl) dX12_setAttribute_39 (fun H locs hP hF => ?_)
  refine lv_if_eq (tgt := 47) hx hb dX12_setAttribute_42 rfl (fun hc => ?_) (fun hc => ?_)
  · have h := ip hc h
    refine lv_iload_n hx hb dX12_setAttribute_47 rfl (lv_at hl 2 rfl) ?_
    refine lv_if_ne (tgt := 60) hx hb dX12_setAttribute_48 rfl (fun hc => ?_) (fun hc => ?_)
    · have h := ine hc h
      refine lv_aload_n hx hb dX12_setAttribute_60 rfl (lv_at hl 0 rfl) ?_
      refine mg_at1 X hP dX12_setAttribute_61 ?_
      refine lv_iload_n hx hb dX12_setAttribute_64 rfl (lv_at hl 1 rfl) ?_
      obtain ⟨v2, hv2, h⟩ := ob h
      refine m_ald X hP hv2 dX12_setAttribute_65 ?_
      exact N_setAttribute_66 X hP hF (lv_sub hl [0, 1, 2, 3] rfl) h
    · have h := ip hc h
      refine lv_aload_n hx hb dX12_setAttribute_51 rfl (lv_at hl 0 rfl) ?_
      refine mg_at0 X hP dX12_setAttribute_52 ?_
      refine lv_iload_n hx hb dX12_setAttribute_55 rfl (lv_at hl 1 rfl) ?_
      obtain ⟨v3, hv3, h⟩ := ob h
      refine m_ald X hP hv3 dX12_setAttribute_56 ?_
      refine lv_goto (tgt := 66) hx hb dX12_setAttribute_57 rfl ?_
      exact N_setAttribute_66 X hP hF (lv_sub hl [0, 1, 2, 3] rfl) h
  · have h := ine hc h
    refine lv_iconst (v := ((-1):Int32)) hx hb dX12_setAttribute_45 (by decide) ?_
    obtain rfl := sj h
    exact m_wi X hP hF dX12_setAttribute_46
set_option maxRecDepth 20000 in
set_option maxHeartbeats 4000000 in
theorem N_setAttribute_38 {p : Program} {l : Launch} {e : Env} {s : State} {m : MethodId} {args : Array Value} {below : List Frame} {meth : Method} {c : Code} {D : mD} {mb : Nat}   {x1 : Int32} {x2 : Int32} {x3 : Int32} {σ : mS} {H : Heap} {locs : List Loc} {ls : Array Slot} {q : Int32 × mS} (X : mX p s m args meth c cX12_setAttribute 5 (some .int) D) (hP : mP D mb σ H) (hF : mF mb s.heap H locs)  (hl : lv_has ls 5 [(0, .ref mb), (1, .int x1), (2, .int x2), (3, .int x3)]) (h : f_setAttribute_38  x1 x2 x3 σ = some q) : mWw p l e 8 180 s m args below meth c D mb q.2 (some (.int q.1)) H locs (F0 m 38 ls [.ref mb]) := by
  have hx := X.1
  have hb := X.2.1
  have hown := X.2.2.2.1
  have hts := X.2.2.2.2.1
  have h : (f_setAttribute_39 (x1) (x2) (x3) ((2:Int32)) σ) = some q := h
  refine lv_iconst (v := (2:Int32)) hx hb dX12_setAttribute_38 (by decide) ?_
  exact N_setAttribute_39 X hP hF (lv_sub hl [0, 1, 2, 3] rfl) h
set_option maxRecDepth 20000 in
set_option maxHeartbeats 4000000 in
theorem K_setAttribute (l : Launch) (D : mD) (mb : Nat) (σ : mS) (x1 : Int32) (x2 : Int32) (x3 : Int32) {q : Int32 × mS} (h : f_setAttribute x1 x2 x3 σ = some q) : Met l yX12_setAttribute (Cond.code yX12_setAttribute cX12_setAttribute 5 (some .int) :: BG) (rM 8 180) (mPc D mb σ [.int x1, .int x2, .int x3]) (mQw D mb q.2 (some (.int q.1))) 0 0 (mReg mb) := by
  refine Met.ofW (cc := cX12_setAttribute) (maxL := 5) (ret := (some .int)) (by decide) rfl ?_
  intro p e s m args below meth c s₁ B hml hv
  obtain ⟨rfl, hP, hK⟩ := hv
  have X := mX_of B hml rfl hK
  have hx := X.1
  have hb := X.2.1
  have hown := X.2.2.2.1
  have hts := X.2.2.2.2.1
  have hl := lv_entry (.ref mb :: [.int x1, .int x2, .int x3]) (n := 5) (Nat.le_of_ble_eq_true rfl)
  rw [lg_entry_eq]
  generalize (lg_sl (.ref mb :: [.int x1, .int x2, .int x3]) ++ List.replicate (5 - (lg_sl (.ref mb :: [.int x1, .int x2, .int x3])).length) Slot.unset).toArray = ls at hl ⊢
  have hl : lv_has ls 5 [(0, .ref mb), (1, .int x1), (2, .int x2), (3, .int x3)] := hl
  have hF : mF mb s.heap s.heap [] := mF.rf
  show mWw p l e 8 180 s m (Value.ref mb :: [.int x1, .int x2, .int x3]).toArray below meth c D mb q.2 (some (.int q.1)) s.heap [] (F0 m 0 ls [])
  have h : ((f_isElement (x1) σ).bind (fun v1 => if v1 = (0:Int32) then (f_setAttribute_39 (x1) (x2) (x3) ((1:Int32)) σ) else ((f_in (x2) ((0:Int32)) ((1:Int32))).bind (fun v2 => if v2 = (0:Int32) then (f_setAttribute_38 (x1) (x2) (x3) σ) else ((f_in (x3) (((-1):Int32)) ((9:Int32))).bind (fun v3 => if v3 = (0:Int32) then (f_setAttribute_38 (x1) (x2) (x3) σ) else (f_setAttribute_39 (x1) (x2) (x3) ((0:Int32)) σ))))))) = some q := h
  refine lv_aload_n hx hb dX12_setAttribute_0 rfl (lv_at hl 0 rfl) ?_
  refine lv_aload_n hx hb dX12_setAttribute_1 rfl (lv_at hl 0 rfl) ?_
  refine lv_iload_n hx hb dX12_setAttribute_2 rfl (lv_at hl 1 rfl) ?_
  obtain ⟨v1, hv1, h⟩ := ob h
  refine cl_isElement X hP hv1 ⟨Nat.le_of_ble_eq_true rfl, Nat.le_of_ble_eq_true rfl⟩ hl.1 (Nat.le_of_ble_eq_true rfl) dX12_setAttribute_3 ?_
  refine lv_if_ne (tgt := 13) hx hb dX12_setAttribute_6 rfl (fun hc => ?_) (fun hc => ?_)
  · have h := ine hc h
    refine lv_aload_n hx hb dX12_setAttribute_13 rfl (lv_at hl 0 rfl) ?_
    refine lv_iload_n hx hb dX12_setAttribute_14 rfl (lv_at hl 2 rfl) ?_
    refine lv_iconst (v := (0:Int32)) hx hb dX12_setAttribute_15 (by decide) ?_
    refine lv_iconst (v := (1:Int32)) hx hb dX12_setAttribute_16 (by decide) ?_
    obtain ⟨v2, hv2, h⟩ := ob h
    refine cl_in X hP hv2 ⟨Nat.le_of_ble_eq_true rfl, Nat.le_of_ble_eq_true rfl⟩ hl.1 (Nat.le_of_ble_eq_true rfl) dX12_setAttribute_17 ?_
    refine lv_if_eq (tgt := 38) hx hb dX12_setAttribute_20 rfl (fun hc => ?_) (fun hc => ?_)
    · have h := ip hc h
      exact N_setAttribute_38 X hP hF (lv_sub hl [0, 1, 2, 3] rfl) h
    · have h := ine hc h
      refine lv_aload_n hx hb dX12_setAttribute_23 rfl (lv_at hl 0 rfl) ?_
      refine lv_iload_n hx hb dX12_setAttribute_24 rfl (lv_at hl 3 rfl) ?_
      refine lv_iconst (v := ((-1):Int32)) hx hb dX12_setAttribute_25 (by decide) ?_
      refine lv_bipush (v := (9:Int32)) hx hb dX12_setAttribute_26 (by decide) ?_
      obtain ⟨v3, hv3, h⟩ := ob h
      refine cl_in X hP hv3 ⟨Nat.le_of_ble_eq_true rfl, Nat.le_of_ble_eq_true rfl⟩ hl.1 (Nat.le_of_ble_eq_true rfl) dX12_setAttribute_28 ?_
      refine lv_if_eq (tgt := 38) hx hb dX12_setAttribute_31 rfl (fun hc => ?_) (fun hc => ?_)
      · have h := ip hc h
        exact N_setAttribute_38 X hP hF (lv_sub hl [0, 1, 2, 3] rfl) h
      · have h := ine hc h
        refine lv_iconst (v := (0:Int32)) hx hb dX12_setAttribute_34 (by decide) ?_
        refine lv_goto (tgt := 39) hx hb dX12_setAttribute_35 rfl ?_
        exact N_setAttribute_39 X hP hF (lv_sub hl [0, 1, 2, 3] rfl) h
  · have h := ip hc h
    refine lv_iconst (v := (1:Int32)) hx hb dX12_setAttribute_9 (by decide) ?_
    refine lv_goto (tgt := 39) hx hb dX12_setAttribute_10 rfl ?_
    exact N_setAttribute_39 X hP hF (lv_sub hl [0, 1, 2, 3] rfl) h
-- setPart(II)I
def f_setPart_28  (x1 : Int32) (x2 : Int32) (y1 : Int32) (σ : mS) : Option (Int32 × mS) := (f_holds (y1) σ).bind (fun v1 => if v1.1 = (0:Int32) then ((rd v1.2 5 x1).bind (fun v2 => (wr v1.2 5 x1 x2).bind (fun s3 => (f_mark (((1:Int32) <<< (x1 &&& 31))) s3).bind (fun v4 => some (v2, v4))))) else (some (((-1):Int32), v1.2)))
def f_setPart (x1 : Int32) (x2 : Int32) (σ : mS) : Option (Int32 × mS) := (f_isElement (x1) σ).bind (fun v1 => if v1 = (0:Int32) then (f_setPart_28 (x1) (x2) ((1:Int32)) σ) else ((f_in (x2) (((-1):Int32)) ((3:Int32))).bind (fun v2 => if v2 = (0:Int32) then (f_setPart_28 (x1) (x2) ((2:Int32)) σ) else (f_setPart_28 (x1) (x2) ((0:Int32)) σ))))
set_option maxRecDepth 20000 in
set_option maxHeartbeats 4000000 in
theorem N_setPart_28 {p : Program} {l : Launch} {e : Env} {s : State} {m : MethodId} {args : Array Value} {below : List Frame} {meth : Method} {c : Code} {D : mD} {mb : Nat}   {x1 : Int32} {x2 : Int32} {y1 : Int32} {σ : mS} {H : Heap} {locs : List Loc} {ls : Array Slot} {q : Int32 × mS} (X : mX p s m args meth c cX12_setPart 4 (some .int) D) (hP : mP D mb σ H) (hF : mF mb s.heap H locs)  (hl : lv_has ls 4 [(0, .ref mb), (1, .int x1), (2, .int x2)]) (h : f_setPart_28  x1 x2 y1 σ = some q) : mWw p l e 5 109 s m args below meth c D mb q.2 (some (.int q.1)) H locs (F0 m 28 ls [.int y1, .ref mb]) := by
  have hx := X.1
  have hb := X.2.1
  have hown := X.2.2.2.1
  have hts := X.2.2.2.2.1
  have h : ((f_holds (y1) σ).bind (fun v1 => if v1.1 = (0:Int32) then ((rd v1.2 5 x1).bind (fun v2 => (wr v1.2 5 x1 x2).bind (fun s3 => (f_mark (((1:Int32) <<< (x1 &&& 31))) s3).bind (fun v4 => some (v2, v4))))) else (some (((-1):Int32), v1.2)))) = some q := h
  obtain ⟨v1, hv1, h⟩ := ob h
  refine cl_holds X hP hF hv1 ⟨Nat.le_of_ble_eq_true rfl, Nat.le_of_ble_eq_true rfl⟩ hl.1 (Nat.le_of_ble_eq_true rfl) dX12_setPart_28 (fun H locs hP hF => ?_)
  refine lv_if_eq (tgt := 36) hx hb dX12_setPart_31 rfl (fun hc => ?_) (fun hc => ?_)
  · have h := ip hc h
    refine lv_aload_n hx hb dX12_setPart_36 rfl (lv_at hl 0 rfl) ?_
    refine mg_part X hP dX12_setPart_37 ?_
    refine lv_iload_n hx hb dX12_setPart_40 rfl (lv_at hl 1 rfl) ?_
    obtain ⟨v2, hv2, h⟩ := ob h
    refine m_ald X hP hv2 dX12_setPart_41 ?_
    refine lv_istore_n hx hb dX12_setPart_42 rfl hl (Nat.le_of_ble_eq_true rfl) rfl (fun ls (hl : lv_has ls 4 [(3, .int v2), (0, .ref mb), (1, .int x1), (2, .int x2)]) => ?_)
    refine lv_aload_n hx hb dX12_setPart_43 rfl (lv_at hl 1 rfl) ?_
    refine mg_part X hP dX12_setPart_44 ?_
    refine lv_iload_n hx hb dX12_setPart_47 rfl (lv_at hl 2 rfl) ?_
    refine lv_iload_n hx hb dX12_setPart_48 rfl (lv_at hl 3 rfl) ?_
    obtain ⟨s3, hs3, h⟩ := ob h
    refine m_ast X hP hF hs3 dX12_setPart_49 (fun H locs hP hF => ?_)
    refine lv_aload_n hx hb dX12_setPart_50 rfl (lv_at hl 1 rfl) ?_
    refine lv_iconst (v := (1:Int32)) hx hb dX12_setPart_51 (by decide) ?_
    refine lv_iload_n hx hb dX12_setPart_52 rfl (lv_at hl 2 rfl) ?_
    refine lv_ishl hx hb dX12_setPart_53 ?_
    obtain ⟨v4, hv4, h⟩ := ob h
    refine cl_mark X hP hF hv4 ⟨Nat.le_of_ble_eq_true rfl, Nat.le_of_ble_eq_true rfl⟩ hl.1 (Nat.le_of_ble_eq_true rfl) dX12_setPart_54 (fun H locs hP hF => ?_)
    refine lv_iload_n hx hb dX12_setPart_57 rfl (lv_at hl 0 rfl) ?_
    obtain rfl := sj h
    exact m_wi X hP hF dX12_setPart_58
  · have h := ine hc h
    refine lv_iconst (v := ((-1):Int32)) hx hb dX12_setPart_34 (by decide) ?_
    obtain rfl := sj h
    exact m_wi X hP hF dX12_setPart_35
set_option maxRecDepth 20000 in
set_option maxHeartbeats 4000000 in
theorem K_setPart (l : Launch) (D : mD) (mb : Nat) (σ : mS) (x1 : Int32) (x2 : Int32) {q : Int32 × mS} (h : f_setPart x1 x2 σ = some q) : Met l yX12_setPart (Cond.code yX12_setPart cX12_setPart 4 (some .int) :: BG) (rM 5 109) (mPc D mb σ [.int x1, .int x2]) (mQw D mb q.2 (some (.int q.1))) 0 0 (mReg mb) := by
  refine Met.ofW (cc := cX12_setPart) (maxL := 4) (ret := (some .int)) (by decide) rfl ?_
  intro p e s m args below meth c s₁ B hml hv
  obtain ⟨rfl, hP, hK⟩ := hv
  have X := mX_of B hml rfl hK
  have hx := X.1
  have hb := X.2.1
  have hown := X.2.2.2.1
  have hts := X.2.2.2.2.1
  have hl := lv_entry (.ref mb :: [.int x1, .int x2]) (n := 4) (Nat.le_of_ble_eq_true rfl)
  rw [lg_entry_eq]
  generalize (lg_sl (.ref mb :: [.int x1, .int x2]) ++ List.replicate (4 - (lg_sl (.ref mb :: [.int x1, .int x2])).length) Slot.unset).toArray = ls at hl ⊢
  have hl : lv_has ls 4 [(0, .ref mb), (1, .int x1), (2, .int x2)] := hl
  have hF : mF mb s.heap s.heap [] := mF.rf
  show mWw p l e 5 109 s m (Value.ref mb :: [.int x1, .int x2]).toArray below meth c D mb q.2 (some (.int q.1)) s.heap [] (F0 m 0 ls [])
  have h : ((f_isElement (x1) σ).bind (fun v1 => if v1 = (0:Int32) then (f_setPart_28 (x1) (x2) ((1:Int32)) σ) else ((f_in (x2) (((-1):Int32)) ((3:Int32))).bind (fun v2 => if v2 = (0:Int32) then (f_setPart_28 (x1) (x2) ((2:Int32)) σ) else (f_setPart_28 (x1) (x2) ((0:Int32)) σ))))) = some q := h
  refine lv_aload_n hx hb dX12_setPart_0 rfl (lv_at hl 0 rfl) ?_
  refine lv_aload_n hx hb dX12_setPart_1 rfl (lv_at hl 0 rfl) ?_
  refine lv_iload_n hx hb dX12_setPart_2 rfl (lv_at hl 1 rfl) ?_
  obtain ⟨v1, hv1, h⟩ := ob h
  refine cl_isElement X hP hv1 ⟨Nat.le_of_ble_eq_true rfl, Nat.le_of_ble_eq_true rfl⟩ hl.1 (Nat.le_of_ble_eq_true rfl) dX12_setPart_3 ?_
  refine lv_if_ne (tgt := 13) hx hb dX12_setPart_6 rfl (fun hc => ?_) (fun hc => ?_)
  · have h := ine hc h
    refine lv_aload_n hx hb dX12_setPart_13 rfl (lv_at hl 0 rfl) ?_
    refine lv_iload_n hx hb dX12_setPart_14 rfl (lv_at hl 2 rfl) ?_
    refine lv_iconst (v := ((-1):Int32)) hx hb dX12_setPart_15 (by decide) ?_
    refine lv_iconst (v := (3:Int32)) hx hb dX12_setPart_16 (by decide) ?_
    obtain ⟨v2, hv2, h⟩ := ob h
    refine cl_in X hP hv2 ⟨Nat.le_of_ble_eq_true rfl, Nat.le_of_ble_eq_true rfl⟩ hl.1 (Nat.le_of_ble_eq_true rfl) dX12_setPart_17 ?_
    refine lv_if_eq (tgt := 27) hx hb dX12_setPart_20 rfl (fun hc => ?_) (fun hc => ?_)
    · have h := ip hc h
      refine lv_iconst (v := (2:Int32)) hx hb dX12_setPart_27 (by decide) ?_
      exact N_setPart_28 X hP hF (lv_sub hl [0, 1, 2] rfl) h
    · have h := ine hc h
      refine lv_iconst (v := (0:Int32)) hx hb dX12_setPart_23 (by decide) ?_
      refine lv_goto (tgt := 28) hx hb dX12_setPart_24 rfl ?_
      exact N_setPart_28 X hP hF (lv_sub hl [0, 1, 2] rfl) h
  · have h := ip hc h
    refine lv_iconst (v := (1:Int32)) hx hb dX12_setPart_9 (by decide) ?_
    refine lv_goto (tgt := 28) hx hb dX12_setPart_10 rfl ?_
    exact N_setPart_28 X hP hF (lv_sub hl [0, 1, 2] rfl) h
-- shownParent(I)I
def f_shownParent_29  (y0 : Int32) (σ : mS) : Option (Int32 × mS) := some (y0, σ)
def f_shownParent_14  (x1 : Int32) (y1 : Int32) (σ : mS) : Option (Int32 × mS) := (f_holds (y1) σ).bind (fun v1 => if v1.1 = (0:Int32) then ((f_shown (x1) v1.2).bind (fun v2 => f_shownParent_29 (v2) v1.2)) else (f_shownParent_29 (((-1):Int32)) v1.2))
def f_shownParent (x1 : Int32) (σ : mS) : Option (Int32 × mS) := (f_isElement (x1) σ).bind (fun v1 => if v1 = (0:Int32) then (f_shownParent_14 (x1) ((1:Int32)) σ) else (f_shownParent_14 (x1) ((0:Int32)) σ))
set_option maxRecDepth 20000 in
set_option maxHeartbeats 4000000 in
theorem N_shownParent_29 {p : Program} {l : Launch} {e : Env} {s : State} {m : MethodId} {args : Array Value} {below : List Frame} {meth : Method} {c : Code} {D : mD} {mb : Nat}   {y0 : Int32} {σ : mS} {H : Heap} {locs : List Loc} {ls : Array Slot} {q : Int32 × mS} (X : mX p s m args meth c cX12_shownParent 2 (some .int) D) (hP : mP D mb σ H) (hF : mF mb s.heap H locs)  (hl : lv_has ls 2 [(0, .ref mb)]) (h : f_shownParent_29  y0 σ = some q) : mWw p l e 5 112 s m args below meth c D mb q.2 (some (.int q.1)) H locs (F0 m 29 ls [.int y0]) := by
  have hx := X.1
  have hb := X.2.1
  have hown := X.2.2.2.1
  have hts := X.2.2.2.2.1
  have h : (some (y0, σ)) = some q := h
  obtain rfl := sj h
  exact m_wi X hP hF dX12_shownParent_29
set_option maxRecDepth 20000 in
set_option maxHeartbeats 4000000 in
theorem N_shownParent_14 {p : Program} {l : Launch} {e : Env} {s : State} {m : MethodId} {args : Array Value} {below : List Frame} {meth : Method} {c : Code} {D : mD} {mb : Nat}   {x1 : Int32} {y1 : Int32} {σ : mS} {H : Heap} {locs : List Loc} {ls : Array Slot} {q : Int32 × mS} (X : mX p s m args meth c cX12_shownParent 2 (some .int) D) (hP : mP D mb σ H) (hF : mF mb s.heap H locs)  (hl : lv_has ls 2 [(0, .ref mb), (1, .int x1)]) (h : f_shownParent_14  x1 y1 σ = some q) : mWw p l e 5 112 s m args below meth c D mb q.2 (some (.int q.1)) H locs (F0 m 14 ls [.int y1, .ref mb]) := by
  have hx := X.1
  have hb := X.2.1
  have hown := X.2.2.2.1
  have hts := X.2.2.2.2.1
  have h : ((f_holds (y1) σ).bind (fun v1 => if v1.1 = (0:Int32) then ((f_shown (x1) v1.2).bind (fun v2 => f_shownParent_29 (v2) v1.2)) else (f_shownParent_29 (((-1):Int32)) v1.2))) = some q := h
  obtain ⟨v1, hv1, h⟩ := ob h
  refine cl_holds X hP hF hv1 ⟨Nat.le_of_ble_eq_true rfl, Nat.le_of_ble_eq_true rfl⟩ hl.1 (Nat.le_of_ble_eq_true rfl) dX12_shownParent_14 (fun H locs hP hF => ?_)
  refine lv_if_eq (tgt := 24) hx hb dX12_shownParent_17 rfl (fun hc => ?_) (fun hc => ?_)
  · have h := ip hc h
    refine lv_aload_n hx hb dX12_shownParent_24 rfl (lv_at hl 0 rfl) ?_
    refine lv_iload_n hx hb dX12_shownParent_25 rfl (lv_at hl 1 rfl) ?_
    obtain ⟨v2, hv2, h⟩ := ob h
    refine cl_shown X hP hv2 ⟨Nat.le_of_ble_eq_true rfl, Nat.le_of_ble_eq_true rfl⟩ hl.1 (Nat.le_of_ble_eq_true rfl) dX12_shownParent_26 ?_
    exact N_shownParent_29 X hP hF (lv_sub hl [0] rfl) h
  · have h := ine hc h
    refine lv_iconst (v := ((-1):Int32)) hx hb dX12_shownParent_20 (by decide) ?_
    refine lv_goto (tgt := 29) hx hb dX12_shownParent_21 rfl ?_
    exact N_shownParent_29 X hP hF (lv_sub hl [0] rfl) h
set_option maxRecDepth 20000 in
set_option maxHeartbeats 4000000 in
theorem K_shownParent (l : Launch) (D : mD) (mb : Nat) (σ : mS) (x1 : Int32) {q : Int32 × mS} (h : f_shownParent x1 σ = some q) : Met l yX12_shownParent (Cond.code yX12_shownParent cX12_shownParent 2 (some .int) :: BG) (rM 5 112) (mPc D mb σ [.int x1]) (mQw D mb q.2 (some (.int q.1))) 0 0 (mReg mb) := by
  refine Met.ofW (cc := cX12_shownParent) (maxL := 2) (ret := (some .int)) (by decide) rfl ?_
  intro p e s m args below meth c s₁ B hml hv
  obtain ⟨rfl, hP, hK⟩ := hv
  have X := mX_of B hml rfl hK
  have hx := X.1
  have hb := X.2.1
  have hown := X.2.2.2.1
  have hts := X.2.2.2.2.1
  have hl := lv_entry (.ref mb :: [.int x1]) (n := 2) (Nat.le_of_ble_eq_true rfl)
  rw [lg_entry_eq]
  generalize (lg_sl (.ref mb :: [.int x1]) ++ List.replicate (2 - (lg_sl (.ref mb :: [.int x1])).length) Slot.unset).toArray = ls at hl ⊢
  have hl : lv_has ls 2 [(0, .ref mb), (1, .int x1)] := hl
  have hF : mF mb s.heap s.heap [] := mF.rf
  show mWw p l e 5 112 s m (Value.ref mb :: [.int x1]).toArray below meth c D mb q.2 (some (.int q.1)) s.heap [] (F0 m 0 ls [])
  have h : ((f_isElement (x1) σ).bind (fun v1 => if v1 = (0:Int32) then (f_shownParent_14 (x1) ((1:Int32)) σ) else (f_shownParent_14 (x1) ((0:Int32)) σ))) = some q := h
  refine lv_aload_n hx hb dX12_shownParent_0 rfl (lv_at hl 0 rfl) ?_
  refine lv_aload_n hx hb dX12_shownParent_1 rfl (lv_at hl 0 rfl) ?_
  refine lv_iload_n hx hb dX12_shownParent_2 rfl (lv_at hl 1 rfl) ?_
  obtain ⟨v1, hv1, h⟩ := ob h
  refine cl_isElement X hP hv1 ⟨Nat.le_of_ble_eq_true rfl, Nat.le_of_ble_eq_true rfl⟩ hl.1 (Nat.le_of_ble_eq_true rfl) dX12_shownParent_3 ?_
  refine lv_if_eq (tgt := 13) hx hb dX12_shownParent_6 rfl (fun hc => ?_) (fun hc => ?_)
  · have h := ip hc h
    refine lv_iconst (v := (1:Int32)) hx hb dX12_shownParent_13 (by decide) ?_
    exact N_shownParent_14 X hP hF (lv_sub hl [0, 1] rfl) h
  · have h := ine hc h
    refine lv_iconst (v := (0:Int32)) hx hb dX12_shownParent_9 (by decide) ?_
    refine lv_goto (tgt := 14) hx hb dX12_shownParent_10 rfl ?_
    exact N_shownParent_14 X hP hF (lv_sub hl [0, 1] rfl) h
-- isIn(I)Z
def f_isIn_33  (y0 : Int32) (σ : mS) : Option (Int32 × mS) := rzw y0 σ
def f_isIn_32   (σ : mS) : Option (Int32 × mS) := f_isIn_33 ((0:Int32)) σ
def f_isIn_14  (x1 : Int32) (y1 : Int32) (σ : mS) : Option (Int32 × mS) := (f_holds (y1) σ).bind (fun v1 => if v1.1 = (0:Int32) then ((f_inDoc (x1) v1.2).bind (fun v2 => if v2 = (0:Int32) then (f_isIn_32 v1.2) else (f_isIn_33 ((1:Int32)) v1.2))) else (f_isIn_32 v1.2))
def f_isIn (x1 : Int32) (σ : mS) : Option (Int32 × mS) := (f_isElement (x1) σ).bind (fun v1 => if v1 = (0:Int32) then (f_isIn_14 (x1) ((1:Int32)) σ) else (f_isIn_14 (x1) ((0:Int32)) σ))
set_option maxRecDepth 20000 in
set_option maxHeartbeats 4000000 in
theorem N_isIn_33 {p : Program} {l : Launch} {e : Env} {s : State} {m : MethodId} {args : Array Value} {below : List Frame} {meth : Method} {c : Code} {D : mD} {mb : Nat}   {y0 : Int32} {σ : mS} {H : Heap} {locs : List Loc} {ls : Array Slot} {q : Int32 × mS} (X : mX p s m args meth c cX12_isIn 2 (some .boolean) D) (hP : mP D mb σ H) (hF : mF mb s.heap H locs)  (hl : lv_has ls 2 [(0, .ref mb)]) (h : f_isIn_33  y0 σ = some q) : mWw p l e 3 66 s m args below meth c D mb q.2 (some (.int q.1)) H locs (F0 m 33 ls [.int y0]) := by
  have hx := X.1
  have hb := X.2.1
  have hown := X.2.2.2.1
  have hts := X.2.2.2.2.1
  have h : (rzw y0 σ) = some q := h
  obtain ⟨hz, rfl⟩ := rzw_spec h
  exact m_wz X hz hP hF dX12_isIn_33
set_option maxRecDepth 20000 in
set_option maxHeartbeats 4000000 in
theorem N_isIn_32 {p : Program} {l : Launch} {e : Env} {s : State} {m : MethodId} {args : Array Value} {below : List Frame} {meth : Method} {c : Code} {D : mD} {mb : Nat}    {σ : mS} {H : Heap} {locs : List Loc} {ls : Array Slot} {q : Int32 × mS} (X : mX p s m args meth c cX12_isIn 2 (some .boolean) D) (hP : mP D mb σ H) (hF : mF mb s.heap H locs)  (hl : lv_has ls 2 [(0, .ref mb)]) (h : f_isIn_32   σ = some q) : mWw p l e 3 66 s m args below meth c D mb q.2 (some (.int q.1)) H locs (F0 m 32 ls []) := by
  have hx := X.1
  have hb := X.2.1
  have hown := X.2.2.2.1
  have hts := X.2.2.2.2.1
  have h : (f_isIn_33 ((0:Int32)) σ) = some q := h
  refine lv_iconst (v := (0:Int32)) hx hb dX12_isIn_32 (by decide) ?_
  exact N_isIn_33 X hP hF (lv_sub hl [0] rfl) h
set_option maxRecDepth 20000 in
set_option maxHeartbeats 4000000 in
theorem N_isIn_14 {p : Program} {l : Launch} {e : Env} {s : State} {m : MethodId} {args : Array Value} {below : List Frame} {meth : Method} {c : Code} {D : mD} {mb : Nat}   {x1 : Int32} {y1 : Int32} {σ : mS} {H : Heap} {locs : List Loc} {ls : Array Slot} {q : Int32 × mS} (X : mX p s m args meth c cX12_isIn 2 (some .boolean) D) (hP : mP D mb σ H) (hF : mF mb s.heap H locs)  (hl : lv_has ls 2 [(0, .ref mb), (1, .int x1)]) (h : f_isIn_14  x1 y1 σ = some q) : mWw p l e 3 66 s m args below meth c D mb q.2 (some (.int q.1)) H locs (F0 m 14 ls [.int y1, .ref mb]) := by
  have hx := X.1
  have hb := X.2.1
  have hown := X.2.2.2.1
  have hts := X.2.2.2.2.1
  have h : ((f_holds (y1) σ).bind (fun v1 => if v1.1 = (0:Int32) then ((f_inDoc (x1) v1.2).bind (fun v2 => if v2 = (0:Int32) then (f_isIn_32 v1.2) else (f_isIn_33 ((1:Int32)) v1.2))) else (f_isIn_32 v1.2))) = some q := h
  obtain ⟨v1, hv1, h⟩ := ob h
  refine cl_holds X hP hF hv1 ⟨Nat.le_of_ble_eq_true rfl, Nat.le_of_ble_eq_true rfl⟩ hl.1 (Nat.le_of_ble_eq_true rfl) dX12_isIn_14 (fun H locs hP hF => ?_)
  refine lv_if_ne (tgt := 32) hx hb dX12_isIn_17 rfl (fun hc => ?_) (fun hc => ?_)
  · have h := ine hc h
    exact N_isIn_32 X hP hF (lv_sub hl [0] rfl) h
  · have h := ip hc h
    refine lv_aload_n hx hb dX12_isIn_20 rfl (lv_at hl 0 rfl) ?_
    refine lv_iload_n hx hb dX12_isIn_21 rfl (lv_at hl 1 rfl) ?_
    obtain ⟨v2, hv2, h⟩ := ob h
    refine cl_inDoc X hP hv2 ⟨Nat.le_of_ble_eq_true rfl, Nat.le_of_ble_eq_true rfl⟩ hl.1 (Nat.le_of_ble_eq_true rfl) dX12_isIn_22 ?_
    refine lv_if_eq (tgt := 32) hx hb dX12_isIn_25 rfl (fun hc => ?_) (fun hc => ?_)
    · have h := ip hc h
      exact N_isIn_32 X hP hF (lv_sub hl [0] rfl) h
    · have h := ine hc h
      refine lv_iconst (v := (1:Int32)) hx hb dX12_isIn_28 (by decide) ?_
      refine lv_goto (tgt := 33) hx hb dX12_isIn_29 rfl ?_
      exact N_isIn_33 X hP hF (lv_sub hl [0] rfl) h
set_option maxRecDepth 20000 in
set_option maxHeartbeats 4000000 in
theorem K_isIn (l : Launch) (D : mD) (mb : Nat) (σ : mS) (x1 : Int32) {q : Int32 × mS} (h : f_isIn x1 σ = some q) : Met l yX12_isIn (Cond.code yX12_isIn cX12_isIn 2 (some .boolean) :: BG) (rM 3 66) (mPc D mb σ [.int x1]) (mQw D mb q.2 (some (.int q.1))) 0 0 (mReg mb) := by
  refine Met.ofW (cc := cX12_isIn) (maxL := 2) (ret := (some .boolean)) (by decide) rfl ?_
  intro p e s m args below meth c s₁ B hml hv
  obtain ⟨rfl, hP, hK⟩ := hv
  have X := mX_of B hml rfl hK
  have hx := X.1
  have hb := X.2.1
  have hown := X.2.2.2.1
  have hts := X.2.2.2.2.1
  have hl := lv_entry (.ref mb :: [.int x1]) (n := 2) (Nat.le_of_ble_eq_true rfl)
  rw [lg_entry_eq]
  generalize (lg_sl (.ref mb :: [.int x1]) ++ List.replicate (2 - (lg_sl (.ref mb :: [.int x1])).length) Slot.unset).toArray = ls at hl ⊢
  have hl : lv_has ls 2 [(0, .ref mb), (1, .int x1)] := hl
  have hF : mF mb s.heap s.heap [] := mF.rf
  show mWw p l e 3 66 s m (Value.ref mb :: [.int x1]).toArray below meth c D mb q.2 (some (.int q.1)) s.heap [] (F0 m 0 ls [])
  have h : ((f_isElement (x1) σ).bind (fun v1 => if v1 = (0:Int32) then (f_isIn_14 (x1) ((1:Int32)) σ) else (f_isIn_14 (x1) ((0:Int32)) σ))) = some q := h
  refine lv_aload_n hx hb dX12_isIn_0 rfl (lv_at hl 0 rfl) ?_
  refine lv_aload_n hx hb dX12_isIn_1 rfl (lv_at hl 0 rfl) ?_
  refine lv_iload_n hx hb dX12_isIn_2 rfl (lv_at hl 1 rfl) ?_
  obtain ⟨v1, hv1, h⟩ := ob h
  refine cl_isElement X hP hv1 ⟨Nat.le_of_ble_eq_true rfl, Nat.le_of_ble_eq_true rfl⟩ hl.1 (Nat.le_of_ble_eq_true rfl) dX12_isIn_3 ?_
  refine lv_if_eq (tgt := 13) hx hb dX12_isIn_6 rfl (fun hc => ?_) (fun hc => ?_)
  · have h := ip hc h
    refine lv_iconst (v := (1:Int32)) hx hb dX12_isIn_13 (by decide) ?_
    exact N_isIn_14 X hP hF (lv_sub hl [0, 1] rfl) h
  · have h := ine hc h
    refine lv_iconst (v := (0:Int32)) hx hb dX12_isIn_9 (by decide) ?_
    refine lv_goto (tgt := 14) hx hb dX12_isIn_10 rfl ?_
    exact N_isIn_14 X hP hF (lv_sub hl [0, 1] rfl) h
-- test(III)I
def f_test_429  (x9 : Int32) (y1 : Int32) (y2 : Int32) (σ : mS) : Option (Int32 × mS) := (wr σ 22 y1 y2).bind (fun s1 => (rd s1 16 x9).bind (fun v2 => (wr s1 16 x9 (v2 + (1:Int32))).bind (fun s3 => (rd s3 16 x9).bind (fun v4 => some (v4, s3)))))
def f_test_405  (x1 : Int32) (x9 : Int32) (y1 : Int32) (y2 : Int32) (σ : mS) : Option (Int32 × mS) := (wr σ 21 y1 y2).bind (fun s1 => if x1 = (8:Int32) then (f_test_429 (x9) ((30:Int32)) ((1:Int32)) s1) else ((rd s1 22 (30:Int32)).bind (fun v2 => f_test_429 (x9) ((30:Int32)) (v2) s1)))
def f_test_336  (x1 : Int32) (x2 : Int32) (x3 : Int32) (x9 : Int32) (y1 : Int32) (σ : mS) : Option (Int32 × mS) := (f_holds (y1) σ).bind (fun v1 => if v1.1 = (0:Int32) then ((rd v1.2 16 x9).bind (fun v2 => (wr v1.2 17 (((4:Int32) * x9) + v2) x1).bind (fun s3 => (wr s3 18 (((4:Int32) * x9) + v2) x2).bind (fun s4 => (wr s4 19 (((4:Int32) * x9) + v2) x3).bind (fun s5 => if x1 = (9:Int32) then (f_test_405 (x1) (x9) ((30:Int32)) (x2) s5) else ((rd s5 21 (30:Int32)).bind (fun v6 => f_test_405 (x1) (x9) ((30:Int32)) (v6) s5))))))) else (some (((-1):Int32), v1.2)))
def f_test_313  (x1 : Int32) (x2 : Int32) (x3 : Int32) (x9 : Int32) (σ : mS) : Option (Int32 × mS) := f_test_336 (x1) (x2) (x3) (x9) ((1:Int32)) σ
def f_test_300  (x1 : Int32) (x2 : Int32) (x3 : Int32) (x6 : Int32) (x7 : Int32) (x8 : Int32) (x9 : Int32) (y0 : Int32) (σ : mS) : Option (Int32 × mS) := if x6 = (0:Int32) then (f_test_313 (x1) (x2) (x3) (x9) σ) else (if x8 = (0:Int32) then (if x7 = (0:Int32) then (f_test_336 (x1) (x2) (x3) (x9) ((2:Int32)) σ) else (if y0 = (0:Int32) then (f_test_336 (x1) (x2) (x3) (x9) ((0:Int32)) σ) else (f_test_336 (x1) (x2) (x3) (x9) ((3:Int32)) σ))) else (f_test_313 (x1) (x2) (x3) (x9) σ))
def f_test_295  (x1 : Int32) (x2 : Int32) (x3 : Int32) (x6 : Int32) (x7 : Int32) (x8 : Int32) (x9 : Int32) (σ : mS) : Option (Int32 × mS) := f_test_300 (x1) (x2) (x3) (x6) (x7) (x8) (x9) ((1:Int32)) σ
def f_test_299  (x1 : Int32) (x2 : Int32) (x3 : Int32) (x6 : Int32) (x7 : Int32) (x8 : Int32) (x9 : Int32) (σ : mS) : Option (Int32 × mS) := f_test_300 (x1) (x2) (x3) (x6) (x7) (x8) (x9) ((0:Int32)) σ
def f_test_252  (x1 : Int32) (x2 : Int32) (x3 : Int32) (x6 : Int32) (x7 : Int32) (y0 : Int32) (σ : mS) : Option (Int32 × mS) := (rd σ 14 (30:Int32)).bind (fun v1 => (rd σ 16 (((120:Int32) + v1) - (1:Int32))).bind (fun v2 => if v2 = (4:Int32) then (f_test_295 (x1) (x2) (x3) (x6) (x7) (y0) ((((120:Int32) + v1) - (1:Int32))) σ) else ((rd σ 21 (30:Int32)).bind (fun v3 => if v3 < (0:Int32) then (f_test_299 (x1) (x2) (x3) (x6) (x7) (y0) ((((120:Int32) + v1) - (1:Int32))) σ) else (if x1 = (9:Int32) then (f_test_295 (x1) (x2) (x3) (x6) (x7) (y0) ((((120:Int32) + v1) - (1:Int32))) σ) else (f_test_299 (x1) (x2) (x3) (x6) (x7) (y0) ((((120:Int32) + v1) - (1:Int32))) σ))))))
def f_test_251  (x1 : Int32) (x2 : Int32) (x3 : Int32) (x6 : Int32) (x7 : Int32) (σ : mS) : Option (Int32 × mS) := f_test_252 (x1) (x2) (x3) (x6) (x7) ((0:Int32)) σ
def f_test_247  (x1 : Int32) (x2 : Int32) (x3 : Int32) (x6 : Int32) (x7 : Int32) (σ : mS) : Option (Int32 × mS) := f_test_252 (x1) (x2) (x3) (x6) (x7) ((1:Int32)) σ
def f_test_209  (x1 : Int32) (x2 : Int32) (x3 : Int32) (x4 : Int32) (x5 : Int32) (x6 : Int32) (y0 : Int32) (σ : mS) : Option (Int32 × mS) := if x6 = (0:Int32) then (f_test_251 (x1) (x2) (x3) (x6) (y0) σ) else (if x4 = (0:Int32) then (f_test_251 (x1) (x2) (x3) (x6) (y0) σ) else (if y0 = (0:Int32) then (f_test_251 (x1) (x2) (x3) (x6) (y0) σ) else ((rd σ 22 x5).bind (fun v1 => if v1 = (1:Int32) then (f_test_247 (x1) (x2) (x3) (x6) (y0) σ) else ((rd σ 21 x5).bind (fun v2 => if v2 < (0:Int32) then (f_test_251 (x1) (x2) (x3) (x6) (y0) σ) else (f_test_247 (x1) (x2) (x3) (x6) (y0) σ)))))))
def f_test_204  (x1 : Int32) (x2 : Int32) (x3 : Int32) (x4 : Int32) (x5 : Int32) (x6 : Int32) (σ : mS) : Option (Int32 × mS) := f_test_209 (x1) (x2) (x3) (x4) (x5) (x6) ((1:Int32)) σ
def f_test_180  (x1 : Int32) (x2 : Int32) (x3 : Int32) (x4 : Int32) (x5 : Int32) (y0 : Int32) (y1 : Int32) (σ : mS) : Option (Int32 × mS) := if x4 = (0:Int32) then (f_test_204 (x1) (x2) (x3) (x4) (x5) ((y0 &&& y1)) σ) else ((f_in (x5) ((0:Int32)) (((σ.2 26) - (1:Int32)))).bind (fun v1 => if v1 = (0:Int32) then (f_test_209 (x1) (x2) (x3) (x4) (x5) ((y0 &&& y1)) ((0:Int32)) σ) else (f_test_204 (x1) (x2) (x3) (x4) (x5) ((y0 &&& y1)) σ)))
def f_test_175  (x1 : Int32) (x2 : Int32) (x3 : Int32) (x4 : Int32) (x5 : Int32) (y0 : Int32) (σ : mS) : Option (Int32 × mS) := f_test_180 (x1) (x2) (x3) (x4) (x5) (y0) ((1:Int32)) σ
def f_test_154  (x1 : Int32) (x2 : Int32) (x3 : Int32) (x4 : Int32) (x5 : Int32) (y0 : Int32) (y1 : Int32) (σ : mS) : Option (Int32 × mS) := if x1 = (7:Int32) then ((f_in (x2) ((0:Int32)) ((3:Int32))).bind (fun v1 => if v1 = (0:Int32) then (f_test_180 (x1) (x2) (x3) (x4) (x5) ((y0 &&& y1)) ((0:Int32)) σ) else (f_test_175 (x1) (x2) (x3) (x4) (x5) ((y0 &&& y1)) σ))) else (f_test_175 (x1) (x2) (x3) (x4) (x5) ((y0 &&& y1)) σ)
def f_test_149  (x1 : Int32) (x2 : Int32) (x3 : Int32) (x4 : Int32) (x5 : Int32) (y0 : Int32) (σ : mS) : Option (Int32 × mS) := f_test_154 (x1) (x2) (x3) (x4) (x5) (y0) ((1:Int32)) σ
def f_test_153  (x1 : Int32) (x2 : Int32) (x3 : Int32) (x4 : Int32) (x5 : Int32) (y0 : Int32) (σ : mS) : Option (Int32 × mS) := f_test_154 (x1) (x2) (x3) (x4) (x5) (y0) ((0:Int32)) σ
def f_test_116  (x1 : Int32) (x2 : Int32) (x3 : Int32) (x4 : Int32) (x5 : Int32) (y0 : Int32) (σ : mS) : Option (Int32 × mS) := if x1 = (4:Int32) then ((f_in (x2) (((-9):Int32)) ((9:Int32))).bind (fun v1 => if v1 = (0:Int32) then (f_test_153 (x1) (x2) (x3) (x4) (x5) (y0) σ) else ((f_in (x3) (((-9):Int32)) ((9:Int32))).bind (fun v2 => if v2 = (0:Int32) then (f_test_153 (x1) (x2) (x3) (x4) (x5) (y0) σ) else (f_test_149 (x1) (x2) (x3) (x4) (x5) (y0) σ))))) else (f_test_149 (x1) (x2) (x3) (x4) (x5) (y0) σ)
def f_test_115  (x1 : Int32) (x2 : Int32) (x3 : Int32) (x4 : Int32) (x5 : Int32) (σ : mS) : Option (Int32 × mS) := f_test_116 (x1) (x2) (x3) (x4) (x5) ((0:Int32)) σ
def f_test_111  (x1 : Int32) (x2 : Int32) (x3 : Int32) (x4 : Int32) (x5 : Int32) (σ : mS) : Option (Int32 × mS) := f_test_116 (x1) (x2) (x3) (x4) (x5) ((1:Int32)) σ
def f_test_85  (x1 : Int32) (x2 : Int32) (x3 : Int32) (x4 : Int32) (x5 : Int32) (σ : mS) : Option (Int32 × mS) := if x1 = (3:Int32) then ((f_in (x2) ((0:Int32)) ((1:Int32))).bind (fun v1 => if v1 = (0:Int32) then (f_test_115 (x1) (x2) (x3) (x4) (x5) σ) else ((f_in (x3) ((0:Int32)) ((9:Int32))).bind (fun v2 => if v2 = (0:Int32) then (f_test_115 (x1) (x2) (x3) (x4) (x5) σ) else (f_test_111 (x1) (x2) (x3) (x4) (x5) σ))))) else (f_test_111 (x1) (x2) (x3) (x4) (x5) σ)
def f_test_75  (x1 : Int32) (x2 : Int32) (x3 : Int32) (x4 : Int32) (x5 : Int32) (σ : mS) : Option (Int32 × mS) := (f_in (x2) ((0:Int32)) ((3:Int32))).bind (fun v1 => if v1 = (0:Int32) then (f_test_115 (x1) (x2) (x3) (x4) (x5) σ) else (f_test_85 (x1) (x2) (x3) (x4) (x5) σ))
def f_test_64  (x1 : Int32) (x2 : Int32) (x3 : Int32) (x4 : Int32) (x5 : Int32) (σ : mS) : Option (Int32 × mS) := if x1 = (2:Int32) then (f_test_75 (x1) (x2) (x3) (x4) (x5) σ) else (if x1 = (9:Int32) then (f_test_75 (x1) (x2) (x3) (x4) (x5) σ) else (f_test_85 (x1) (x2) (x3) (x4) (x5) σ))
def f_test_35  (x1 : Int32) (x2 : Int32) (x3 : Int32) (x4 : Int32) (y0 : Int32) (σ : mS) : Option (Int32 × mS) := (f_in (x1) ((0:Int32)) ((9:Int32))).bind (fun v1 => if v1 = (0:Int32) then (f_test_115 (x1) (x2) (x3) (x4) (y0) σ) else (if (1:Int32) < x1 then (f_test_64 (x1) (x2) (x3) (x4) (y0) σ) else ((f_in (x2) ((0:Int32)) ((7:Int32))).bind (fun v2 => if v2 = (0:Int32) then (f_test_115 (x1) (x2) (x3) (x4) (y0) σ) else (f_test_64 (x1) (x2) (x3) (x4) (y0) σ)))))
def f_test_22  (x1 : Int32) (x2 : Int32) (x3 : Int32) (y0 : Int32) (σ : mS) : Option (Int32 × mS) := if x1 = (7:Int32) then (f_test_35 (x1) (x2) (x3) (y0) (x3) σ) else (f_test_35 (x1) (x2) (x3) (y0) (x2) σ)
def f_test_17  (x1 : Int32) (x2 : Int32) (x3 : Int32) (σ : mS) : Option (Int32 × mS) := f_test_22 (x1) (x2) (x3) ((1:Int32)) σ
def f_test (x1 : Int32) (x2 : Int32) (x3 : Int32) (σ : mS) : Option (Int32 × mS) := if x1 = (5:Int32) then (f_test_17 (x1) (x2) (x3) σ) else (if x1 = (6:Int32) then (f_test_17 (x1) (x2) (x3) σ) else (if x1 = (7:Int32) then (f_test_17 (x1) (x2) (x3) σ) else (f_test_22 (x1) (x2) (x3) ((0:Int32)) σ)))
set_option maxRecDepth 20000 in
set_option maxHeartbeats 4000000 in
theorem N_test_429 {p : Program} {l : Launch} {e : Env} {s : State} {m : MethodId} {args : Array Value} {below : List Frame} {meth : Method} {c : Code} {D : mD} {mb : Nat}   {x9 : Int32} {y1 : Int32} {y2 : Int32} {σ : mS} {H : Heap} {locs : List Loc} {ls : Array Slot} {q : Int32 × mS} (X : mX p s m args meth c cX12_test 12 (some .int) D) (hP : mP D mb σ H) (hF : mF mb s.heap H locs)  (hl : lv_has ls 12 [(0, .ref mb), (9, .int x9)]) (h : f_test_429  x9 y1 y2 σ = some q) : mWw p l e 1 23 s m args below meth c D mb q.2 (some (.int q.1)) H locs (F0 m 429 ls [.int y2, .int y1, .ref (mA mb 22)]) := by
  have hx := X.1
  have hb := X.2.1
  have hown := X.2.2.2.1
  have hts := X.2.2.2.2.1
  have h : ((wr σ 22 y1 y2).bind (fun s1 => (rd s1 16 x9).bind (fun v2 => (wr s1 16 x9 (v2 + (1:Int32))).bind (fun s3 => (rd s3 16 x9).bind (fun v4 => some (v4, s3)))))) = some q := h
  obtain ⟨s1, hs1, h⟩ := ob h
  refine m_ast X hP hF hs1 dX12_test_429 (fun H locs hP hF => ?_)
  refine lv_aload_n hx hb dX12_test_430 rfl (lv_at hl 0 rfl) ?_
  refine mg_nt X hP dX12_test_431 ?_
  refine lv_iload hx hb dX12_test_434 (lv_at hl 1 rfl) ?_
  refine lv_dup2_11 hx hb dX12_test_436 rfl rfl ?_
  obtain ⟨v2, hv2, h⟩ := ob h
  refine m_ald X hP hv2 dX12_test_437 ?_
  refine lv_iconst (v := (1:Int32)) hx hb dX12_test_438 (by decide) ?_
  refine lv_iadd hx hb dX12_test_439 ?_
  obtain ⟨s3, hs3, h⟩ := ob h
  refine m_ast X hP hF hs3 dX12_test_440 (fun H locs hP hF => ?_)
  refine lv_aload_n hx hb dX12_test_441 rfl (lv_at hl 0 rfl) ?_
  refine mg_nt X hP dX12_test_442 ?_
  refine lv_iload hx hb dX12_test_445 (lv_at hl 1 rfl) ?_
  obtain ⟨v4, hv4, h⟩ := ob h
  refine m_ald X hP hv4 dX12_test_447 ?_
  obtain rfl := sj h
  exact m_wi X hP hF dX12_test_448
set_option maxRecDepth 20000 in
set_option maxHeartbeats 4000000 in
theorem N_test_405 {p : Program} {l : Launch} {e : Env} {s : State} {m : MethodId} {args : Array Value} {below : List Frame} {meth : Method} {c : Code} {D : mD} {mb : Nat}   {x1 : Int32} {x9 : Int32} {y1 : Int32} {y2 : Int32} {σ : mS} {H : Heap} {locs : List Loc} {ls : Array Slot} {q : Int32 × mS} (X : mX p s m args meth c cX12_test 12 (some .int) D) (hP : mP D mb σ H) (hF : mF mb s.heap H locs)  (hl : lv_has ls 12 [(0, .ref mb), (1, .int x1), (9, .int x9)]) (h : f_test_405  x1 x9 y1 y2 σ = some q) : mWw p l e 1 23 s m args below meth c D mb q.2 (some (.int q.1)) H locs (F0 m 405 ls [.int y2, .int y1, .ref (mA mb 21)]) := by
  have hx := X.1
  have hb := X.2.1
  have hown := X.2.2.2.1
  have hts := X.2.2.2.2.1
  have h : ((wr σ 21 y1 y2).bind (fun s1 => if x1 = (8:Int32) then (f_test_429 (x9) ((30:Int32)) ((1:Int32)) s1) else ((rd s1 22 (30:Int32)).bind (fun v2 => f_test_429 (x9) ((30:Int32)) (v2) s1)))) = some q := h
  obtain ⟨s1, hs1, h⟩ := ob h
  refine m_ast X hP hF hs1 dX12_test_405 (fun H locs hP hF => ?_)
  refine lv_aload_n hx hb dX12_test_406 rfl (lv_at hl 0 rfl) ?_
  refine mg_hh X hP dX12_test_407 ?_
  refine lv_bipush (v := (30:Int32)) hx hb dX12_test_410 (by decide) ?_
  refine lv_iload_n hx hb dX12_test_412 rfl (lv_at hl 1 rfl) ?_
  refine lv_bipush (v := (8:Int32)) hx hb dX12_test_413 (by decide) ?_
  refine lv_icmp_ne (tgt := 422) hx hb dX12_test_415 rfl (fun hc => ?_) (fun hc => ?_)
  · have h := ine hc h
    refine lv_aload_n hx hb dX12_test_422 rfl (lv_at hl 0 rfl) ?_
    refine mg_hh X hP dX12_test_423 ?_
    refine lv_bipush (v := (30:Int32)) hx hb dX12_test_426 (by decide) ?_
    obtain ⟨v2, hv2, h⟩ := ob h
    refine m_ald X hP hv2 dX12_test_428 ?_
    exact N_test_429 X hP hF (lv_sub hl [0, 2] rfl) h
  · have h := ip hc h
    refine lv_iconst (v := (1:Int32)) hx hb dX12_test_418 (by decide) ?_
    refine lv_goto (tgt := 429) hx hb dX12_test_419 rfl ?_
    exact N_test_429 X hP hF (lv_sub hl [0, 2] rfl) h
set_option maxRecDepth 20000 in
set_option maxHeartbeats 4000000 in
theorem N_test_336 {p : Program} {l : Launch} {e : Env} {s : State} {m : MethodId} {args : Array Value} {below : List Frame} {meth : Method} {c : Code} {D : mD} {mb : Nat}   {x1 : Int32} {x2 : Int32} {x3 : Int32} {x9 : Int32} {y1 : Int32} {σ : mS} {H : Heap} {locs : List Loc} {ls : Array Slot} {q : Int32 × mS} (X : mX p s m args meth c cX12_test 12 (some .int) D) (hP : mP D mb σ H) (hF : mF mb s.heap H locs)  (hl : lv_has ls 12 [(0, .ref mb), (1, .int x1), (2, .int x2), (3, .int x3), (9, .int x9)]) (h : f_test_336  x1 x2 x3 x9 y1 σ = some q) : mWw p l e 1 23 s m args below meth c D mb q.2 (some (.int q.1)) H locs (F0 m 336 ls [.int y1, .ref mb]) := by
  have hx := X.1
  have hb := X.2.1
  have hown := X.2.2.2.1
  have hts := X.2.2.2.2.1
  have h : ((f_holds (y1) σ).bind (fun v1 => if v1.1 = (0:Int32) then ((rd v1.2 16 x9).bind (fun v2 => (wr v1.2 17 (((4:Int32) * x9) + v2) x1).bind (fun s3 => (wr s3 18 (((4:Int32) * x9) + v2) x2).bind (fun s4 => (wr s4 19 (((4:Int32) * x9) + v2) x3).bind (fun s5 => if x1 = (9:Int32) then (f_test_405 (x1) (x9) ((30:Int32)) (x2) s5) else ((rd s5 21 (30:Int32)).bind (fun v6 => f_test_405 (x1) (x9) ((30:Int32)) (v6) s5))))))) else (some (((-1):Int32), v1.2)))) = some q := h
  obtain ⟨v1, hv1, h⟩ := ob h
  refine cl_holds X hP hF hv1 ⟨Nat.le_of_ble_eq_true rfl, Nat.le_of_ble_eq_true rfl⟩ hl.1 (Nat.le_of_ble_eq_true rfl) dX12_test_336 (fun H locs hP hF => ?_)
  refine lv_if_eq (tgt := 344) hx hb dX12_test_339 rfl (fun hc => ?_) (fun hc => ?_)
  · have h := ip hc h
    refine lv_iconst (v := (4:Int32)) hx hb dX12_test_344 (by decide) ?_
    refine lv_iload hx hb dX12_test_345 (lv_at hl 4 rfl) ?_
    refine lv_imul hx hb dX12_test_347 ?_
    refine lv_aload_n hx hb dX12_test_348 rfl (lv_at hl 0 rfl) ?_
    refine mg_nt X hP dX12_test_349 ?_
    refine lv_iload hx hb dX12_test_352 (lv_at hl 4 rfl) ?_
    obtain ⟨v2, hv2, h⟩ := ob h
    refine m_ald X hP hv2 dX12_test_354 ?_
    refine lv_iadd hx hb dX12_test_355 ?_
    refine lv_istore hx hb dX12_test_356 hl (Nat.le_of_ble_eq_true rfl) rfl (fun ls (hl : lv_has ls 12 [(11, .int (((4:Int32) * x9) + v2)), (0, .ref mb), (1, .int x1), (2, .int x2), (3, .int x3), (9, .int x9)]) => ?_)
    refine lv_aload_n hx hb dX12_test_358 rfl (lv_at hl 1 rfl) ?_
    refine mg_tk X hP dX12_test_359 ?_
    refine lv_iload hx hb dX12_test_362 (lv_at hl 0 rfl) ?_
    refine lv_iload_n hx hb dX12_test_364 rfl (lv_at hl 2 rfl) ?_
    obtain ⟨s3, hs3, h⟩ := ob h
    refine m_ast X hP hF hs3 dX12_test_365 (fun H locs hP hF => ?_)
    refine lv_aload_n hx hb dX12_test_366 rfl (lv_at hl 1 rfl) ?_
    refine mg_ta X hP dX12_test_367 ?_
    refine lv_iload hx hb dX12_test_370 (lv_at hl 0 rfl) ?_
    refine lv_iload_n hx hb dX12_test_372 rfl (lv_at hl 3 rfl) ?_
    obtain ⟨s4, hs4, h⟩ := ob h
    refine m_ast X hP hF hs4 dX12_test_373 (fun H locs hP hF => ?_)
    refine lv_aload_n hx hb dX12_test_374 rfl (lv_at hl 1 rfl) ?_
    refine mg_tb X hP dX12_test_375 ?_
    refine lv_iload hx hb dX12_test_378 (lv_at hl 0 rfl) ?_
    refine lv_iload_n hx hb dX12_test_380 rfl (lv_at hl 4 rfl) ?_
    obtain ⟨s5, hs5, h⟩ := ob h
    refine m_ast X hP hF hs5 dX12_test_381 (fun H locs hP hF => ?_)
    refine lv_aload_n hx hb dX12_test_382 rfl (lv_at hl 1 rfl) ?_
    refine mg_hp X hP dX12_test_383 ?_
    refine lv_bipush (v := (30:Int32)) hx hb dX12_test_386 (by decide) ?_
    refine lv_iload_n hx hb dX12_test_388 rfl (lv_at hl 2 rfl) ?_
    refine lv_bipush (v := (9:Int32)) hx hb dX12_test_389 (by decide) ?_
    refine lv_icmp_ne (tgt := 398) hx hb dX12_test_391 rfl (fun hc => ?_) (fun hc => ?_)
    · have h := ine hc h
      refine lv_aload_n hx hb dX12_test_398 rfl (lv_at hl 1 rfl) ?_
      refine mg_hp X hP dX12_test_399 ?_
      refine lv_bipush (v := (30:Int32)) hx hb dX12_test_402 (by decide) ?_
      obtain ⟨v6, hv6, h⟩ := ob h
      refine m_ald X hP hv6 dX12_test_404 ?_
      exact N_test_405 X hP hF (lv_sub hl [1, 2, 5] rfl) h
    · have h := ip hc h
      refine lv_iload_n hx hb dX12_test_394 rfl (lv_at hl 3 rfl) ?_
      refine lv_goto (tgt := 405) hx hb dX12_test_395 rfl ?_
      exact N_test_405 X hP hF (lv_sub hl [1, 2, 5] rfl) h
  · have h := ine hc h
    refine lv_iconst (v := ((-1):Int32)) hx hb dX12_test_342 (by decide) ?_
    obtain rfl := sj h
    exact m_wi X hP hF dX12_test_343
set_option maxRecDepth 20000 in
set_option maxHeartbeats 4000000 in
theorem N_test_313 {p : Program} {l : Launch} {e : Env} {s : State} {m : MethodId} {args : Array Value} {below : List Frame} {meth : Method} {c : Code} {D : mD} {mb : Nat}   {x1 : Int32} {x2 : Int32} {x3 : Int32} {x9 : Int32} {σ : mS} {H : Heap} {locs : List Loc} {ls : Array Slot} {q : Int32 × mS} (X : mX p s m args meth c cX12_test 12 (some .int) D) (hP : mP D mb σ H) (hF : mF mb s.heap H locs)  (hl : lv_has ls 12 [(0, .ref mb), (1, .int x1), (2, .int x2), (3, .int x3), (9, .int x9)]) (h : f_test_313  x1 x2 x3 x9 σ = some q) : mWw p l e 1 23 s m args below meth c D mb q.2 (some (.int q.1)) H locs (F0 m 313 ls [.ref mb]) := by
  have hx := X.1
  have hb := X.2.1
  have hown := X.2.2.2.1
  have hts := X.2.2.2.2.1
  have h : (f_test_336 (x1) (x2) (x3) (x9) ((1:Int32)) σ) = some q := h
  refine lv_iconst (v := (1:Int32)) hx hb dX12_test_313 (by decide) ?_
  refine lv_goto (tgt := 336) hx hb dX12_test_314 rfl ?_
  exact N_test_336 X hP hF (lv_sub hl [0, 1, 2, 3, 4] rfl) h
set_option maxRecDepth 20000 in
set_option maxHeartbeats 4000000 in
theorem N_test_300 {p : Program} {l : Launch} {e : Env} {s : State} {m : MethodId} {args : Array Value} {below : List Frame} {meth : Method} {c : Code} {D : mD} {mb : Nat}   {x1 : Int32} {x2 : Int32} {x3 : Int32} {x6 : Int32} {x7 : Int32} {x8 : Int32} {x9 : Int32} {y0 : Int32} {σ : mS} {H : Heap} {locs : List Loc} {ls : Array Slot} {q : Int32 × mS} (X : mX p s m args meth c cX12_test 12 (some .int) D) (hP : mP D mb σ H) (hF : mF mb s.heap H locs)  (hl : lv_has ls 12 [(0, .ref mb), (1, .int x1), (2, .int x2), (3, .int x3), (6, .int x6), (7, .int x7), (8, .int x8), (9, .int x9)]) (h : f_test_300  x1 x2 x3 x6 x7 x8 x9 y0 σ = some q) : mWw p l e 1 23 s m args below meth c D mb q.2 (some (.int q.1)) H locs (F0 m 300 ls [.int y0]) := by
  have hx := X.1
  have hb := X.2.1
  have hown := X.2.2.2.1
  have hts := X.2.2.2.2.1
  have h : (if x6 = (0:Int32) then (f_test_313 (x1) (x2) (x3) (x9) σ) else (if x8 = (0:Int32) then (if x7 = (0:Int32) then (f_test_336 (x1) (x2) (x3) (x9) ((2:Int32)) σ) else (if y0 = (0:Int32) then (f_test_336 (x1) (x2) (x3) (x9) ((0:Int32)) σ) else (f_test_336 (x1) (x2) (x3) (x9) ((3:Int32)) σ))) else (f_test_313 (x1) (x2) (x3) (x9) σ))) = some q := h
  refine lv_istore hx hb dX12_test_300 hl (Nat.le_of_ble_eq_true rfl) rfl (fun ls (hl : lv_has ls 12 [(10, .int y0), (0, .ref mb), (1, .int x1), (2, .int x2), (3, .int x3), (6, .int x6), (7, .int x7), (8, .int x8), (9, .int x9)]) => ?_)
  refine lv_aload_n hx hb dX12_test_302 rfl (lv_at hl 1 rfl) ?_
  refine lv_iload hx hb dX12_test_303 (lv_at hl 5 rfl) ?_
  refine lv_if_eq (tgt := 313) hx hb dX12_test_305 rfl (fun hc => ?_) (fun hc => ?_)
  · have h := ip hc h
    exact N_test_313 X hP hF (lv_sub hl [1, 2, 3, 4, 8] rfl) h
  · have h := ine hc h
    refine lv_iload hx hb dX12_test_308 (lv_at hl 7 rfl) ?_
    refine lv_if_eq (tgt := 317) hx hb dX12_test_310 rfl (fun hc => ?_) (fun hc => ?_)
    · have h := ip hc h
      refine lv_iload hx hb dX12_test_317 (lv_at hl 6 rfl) ?_
      refine lv_if_ne (tgt := 326) hx hb dX12_test_319 rfl (fun hc => ?_) (fun hc => ?_)
      · have h := ine hc h
        refine lv_iload hx hb dX12_test_326 (lv_at hl 0 rfl) ?_
        refine lv_if_eq (tgt := 335) hx hb dX12_test_328 rfl (fun hc => ?_) (fun hc => ?_)
        · have h := ip hc h
          refine lv_iconst (v := (0:Int32)) hx hb dX12_test_335 (by decide) ?_
          exact N_test_336 X hP hF (lv_sub hl [1, 2, 3, 4, 8] rfl) h
        · have h := ine hc h
          refine lv_iconst (v := (3:Int32)) hx hb dX12_test_331 (by decide) ?_
          refine lv_goto (tgt := 336) hx hb dX12_test_332 rfl ?_
          exact N_test_336 X hP hF (lv_sub hl [1, 2, 3, 4, 8] rfl) h
      · have h := ip hc h
        refine lv_iconst (v := (2:Int32)) hx hb dX12_test_322 (by decide) ?_
        refine lv_goto (tgt := 336) hx hb dX12_test_323 rfl ?_
        exact N_test_336 X hP hF (lv_sub hl [1, 2, 3, 4, 8] rfl) h
    · have h := ine hc h
      exact N_test_313 X hP hF (lv_sub hl [1, 2, 3, 4, 8] rfl) h
set_option maxRecDepth 20000 in
set_option maxHeartbeats 4000000 in
theorem N_test_295 {p : Program} {l : Launch} {e : Env} {s : State} {m : MethodId} {args : Array Value} {below : List Frame} {meth : Method} {c : Code} {D : mD} {mb : Nat}   {x1 : Int32} {x2 : Int32} {x3 : Int32} {x6 : Int32} {x7 : Int32} {x8 : Int32} {x9 : Int32} {σ : mS} {H : Heap} {locs : List Loc} {ls : Array Slot} {q : Int32 × mS} (X : mX p s m args meth c cX12_test 12 (some .int) D) (hP : mP D mb σ H) (hF : mF mb s.heap H locs)  (hl : lv_has ls 12 [(0, .ref mb), (1, .int x1), (2, .int x2), (3, .int x3), (6, .int x6), (7, .int x7), (8, .int x8), (9, .int x9)]) (h : f_test_295  x1 x2 x3 x6 x7 x8 x9 σ = some q) : mWw p l e 1 23 s m args below meth c D mb q.2 (some (.int q.1)) H locs (F0 m 295 ls []) := by
  have hx := X.1
  have hb := X.2.1
  have hown := X.2.2.2.1
  have hts := X.2.2.2.2.1
  have h : (f_test_300 (x1) (x2) (x3) (x6) (x7) (x8) (x9) ((1:Int32)) σ) = some q := h
  refine lv_iconst (v := (1:Int32)) hx hb dX12_test_295 (by decide) ?_
  refine lv_goto (tgt := 300) hx hb dX12_test_296 rfl ?_
  exact N_test_300 X hP hF (lv_sub hl [0, 1, 2, 3, 4, 5, 6, 7] rfl) h
set_option maxRecDepth 20000 in
set_option maxHeartbeats 4000000 in
theorem N_test_299 {p : Program} {l : Launch} {e : Env} {s : State} {m : MethodId} {args : Array Value} {below : List Frame} {meth : Method} {c : Code} {D : mD} {mb : Nat}   {x1 : Int32} {x2 : Int32} {x3 : Int32} {x6 : Int32} {x7 : Int32} {x8 : Int32} {x9 : Int32} {σ : mS} {H : Heap} {locs : List Loc} {ls : Array Slot} {q : Int32 × mS} (X : mX p s m args meth c cX12_test 12 (some .int) D) (hP : mP D mb σ H) (hF : mF mb s.heap H locs)  (hl : lv_has ls 12 [(0, .ref mb), (1, .int x1), (2, .int x2), (3, .int x3), (6, .int x6), (7, .int x7), (8, .int x8), (9, .int x9)]) (h : f_test_299  x1 x2 x3 x6 x7 x8 x9 σ = some q) : mWw p l e 1 23 s m args below meth c D mb q.2 (some (.int q.1)) H locs (F0 m 299 ls []) := by
  have hx := X.1
  have hb := X.2.1
  have hown := X.2.2.2.1
  have hts := X.2.2.2.2.1
  have h : (f_test_300 (x1) (x2) (x3) (x6) (x7) (x8) (x9) ((0:Int32)) σ) = some q := h
  refine lv_iconst (v := (0:Int32)) hx hb dX12_test_299 (by decide) ?_
  exact N_test_300 X hP hF (lv_sub hl [0, 1, 2, 3, 4, 5, 6, 7] rfl) h
set_option maxRecDepth 20000 in
set_option maxHeartbeats 4000000 in
theorem N_test_252 {p : Program} {l : Launch} {e : Env} {s : State} {m : MethodId} {args : Array Value} {below : List Frame} {meth : Method} {c : Code} {D : mD} {mb : Nat}   {x1 : Int32} {x2 : Int32} {x3 : Int32} {x6 : Int32} {x7 : Int32} {y0 : Int32} {σ : mS} {H : Heap} {locs : List Loc} {ls : Array Slot} {q : Int32 × mS} (X : mX p s m args meth c cX12_test 12 (some .int) D) (hP : mP D mb σ H) (hF : mF mb s.heap H locs)  (hl : lv_has ls 12 [(0, .ref mb), (1, .int x1), (2, .int x2), (3, .int x3), (6, .int x6), (7, .int x7)]) (h : f_test_252  x1 x2 x3 x6 x7 y0 σ = some q) : mWw p l e 1 23 s m args below meth c D mb q.2 (some (.int q.1)) H locs (F0 m 252 ls [.int y0]) := by
  have hx := X.1
  have hb := X.2.1
  have hown := X.2.2.2.1
  have hts := X.2.2.2.2.1
  have h : ((rd σ 14 (30:Int32)).bind (fun v1 => (rd σ 16 (((120:Int32) + v1) - (1:Int32))).bind (fun v2 => if v2 = (4:Int32) then (f_test_295 (x1) (x2) (x3) (x6) (x7) (y0) ((((120:Int32) + v1) - (1:Int32))) σ) else ((rd σ 21 (30:Int32)).bind (fun v3 => if v3 < (0:Int32) then (f_test_299 (x1) (x2) (x3) (x6) (x7) (y0) ((((120:Int32) + v1) - (1:Int32))) σ) else (if x1 = (9:Int32) then (f_test_295 (x1) (x2) (x3) (x6) (x7) (y0) ((((120:Int32) + v1) - (1:Int32))) σ) else (f_test_299 (x1) (x2) (x3) (x6) (x7) (y0) ((((120:Int32) + v1) - (1:Int32))) σ))))))) = some q := h
  refine lv_istore hx hb dX12_test_252 hl (Nat.le_of_ble_eq_true rfl) rfl (fun ls (hl : lv_has ls 12 [(8, .int y0), (0, .ref mb), (1, .int x1), (2, .int x2), (3, .int x3), (6, .int x6), (7, .int x7)]) => ?_)
  refine lv_bipush (v := (120:Int32)) hx hb dX12_test_254 (by decide) ?_
  refine lv_aload_n hx hb dX12_test_256 rfl (lv_at hl 1 rfl) ?_
  refine mg_nc X hP dX12_test_257 ?_
  refine lv_bipush (v := (30:Int32)) hx hb dX12_test_260 (by decide) ?_
  obtain ⟨v1, hv1, h⟩ := ob h
  refine m_ald X hP hv1 dX12_test_262 ?_
  refine lv_iadd hx hb dX12_test_263 ?_
  refine lv_iconst (v := (1:Int32)) hx hb dX12_test_264 (by decide) ?_
  refine lv_isub hx hb dX12_test_265 ?_
  refine lv_istore hx hb dX12_test_266 hl (Nat.le_of_ble_eq_true rfl) rfl (fun ls (hl : lv_has ls 12 [(9, .int (((120:Int32) + v1) - (1:Int32))), (8, .int y0), (0, .ref mb), (1, .int x1), (2, .int x2), (3, .int x3), (6, .int x6), (7, .int x7)]) => ?_)
  refine lv_aload_n hx hb dX12_test_268 rfl (lv_at hl 2 rfl) ?_
  refine mg_nt X hP dX12_test_269 ?_
  refine lv_iload hx hb dX12_test_272 (lv_at hl 0 rfl) ?_
  obtain ⟨v2, hv2, h⟩ := ob h
  refine m_ald X hP hv2 dX12_test_274 ?_
  refine lv_iconst (v := (4:Int32)) hx hb dX12_test_275 (by decide) ?_
  refine lv_icmp_eq (tgt := 295) hx hb dX12_test_276 rfl (fun hc => ?_) (fun hc => ?_)
  · have h := ip hc h
    exact N_test_295 X hP hF (lv_sub hl [2, 3, 4, 5, 6, 7, 1, 0] rfl) h
  · have h := ine hc h
    refine lv_aload_n hx hb dX12_test_279 rfl (lv_at hl 2 rfl) ?_
    refine mg_hp X hP dX12_test_280 ?_
    refine lv_bipush (v := (30:Int32)) hx hb dX12_test_283 (by decide) ?_
    obtain ⟨v3, hv3, h⟩ := ob h
    refine m_ald X hP hv3 dX12_test_285 ?_
    refine lv_if_lt (tgt := 299) hx hb dX12_test_286 rfl (fun hc => ?_) (fun hc => ?_)
    · have h := ip hc h
      exact N_test_299 X hP hF (lv_sub hl [2, 3, 4, 5, 6, 7, 1, 0] rfl) h
    · have h := ine hc h
      refine lv_iload_n hx hb dX12_test_289 rfl (lv_at hl 3 rfl) ?_
      refine lv_bipush (v := (9:Int32)) hx hb dX12_test_290 (by decide) ?_
      refine lv_icmp_ne (tgt := 299) hx hb dX12_test_292 rfl (fun hc => ?_) (fun hc => ?_)
      · have h := ine hc h
        exact N_test_299 X hP hF (lv_sub hl [2, 3, 4, 5, 6, 7, 1, 0] rfl) h
      · have h := ip hc h
        exact N_test_295 X hP hF (lv_sub hl [2, 3, 4, 5, 6, 7, 1, 0] rfl) h
set_option maxRecDepth 20000 in
set_option maxHeartbeats 4000000 in
theorem N_test_251 {p : Program} {l : Launch} {e : Env} {s : State} {m : MethodId} {args : Array Value} {below : List Frame} {meth : Method} {c : Code} {D : mD} {mb : Nat}   {x1 : Int32} {x2 : Int32} {x3 : Int32} {x6 : Int32} {x7 : Int32} {σ : mS} {H : Heap} {locs : List Loc} {ls : Array Slot} {q : Int32 × mS} (X : mX p s m args meth c cX12_test 12 (some .int) D) (hP : mP D mb σ H) (hF : mF mb s.heap H locs)  (hl : lv_has ls 12 [(0, .ref mb), (1, .int x1), (2, .int x2), (3, .int x3), (6, .int x6), (7, .int x7)]) (h : f_test_251  x1 x2 x3 x6 x7 σ = some q) : mWw p l e 1 23 s m args below meth c D mb q.2 (some (.int q.1)) H locs (F0 m 251 ls []) := by
  have hx := X.1
  have hb := X.2.1
  have hown := X.2.2.2.1
  have hts := X.2.2.2.2.1
  have h : (f_test_252 (x1) (x2) (x3) (x6) (x7) ((0:Int32)) σ) = some q := h
  refine lv_iconst (v := (0:Int32)) hx hb dX12_test_251 (by decide) ?_
  exact N_test_252 X hP hF (lv_sub hl [0, 1, 2, 3, 4, 5] rfl) h
set_option maxRecDepth 20000 in
set_option maxHeartbeats 4000000 in
theorem N_test_247 {p : Program} {l : Launch} {e : Env} {s : State} {m : MethodId} {args : Array Value} {below : List Frame} {meth : Method} {c : Code} {D : mD} {mb : Nat}   {x1 : Int32} {x2 : Int32} {x3 : Int32} {x6 : Int32} {x7 : Int32} {σ : mS} {H : Heap} {locs : List Loc} {ls : Array Slot} {q : Int32 × mS} (X : mX p s m args meth c cX12_test 12 (some .int) D) (hP : mP D mb σ H) (hF : mF mb s.heap H locs)  (hl : lv_has ls 12 [(0, .ref mb), (1, .int x1), (2, .int x2), (3, .int x3), (6, .int x6), (7, .int x7)]) (h : f_test_247  x1 x2 x3 x6 x7 σ = some q) : mWw p l e 1 23 s m args below meth c D mb q.2 (some (.int q.1)) H locs (F0 m 247 ls []) := by
  have hx := X.1
  have hb := X.2.1
  have hown := X.2.2.2.1
  have hts := X.2.2.2.2.1
  have h : (f_test_252 (x1) (x2) (x3) (x6) (x7) ((1:Int32)) σ) = some q := h
  refine lv_iconst (v := (1:Int32)) hx hb dX12_test_247 (by decide) ?_
  refine lv_goto (tgt := 252) hx hb dX12_test_248 rfl ?_
  exact N_test_252 X hP hF (lv_sub hl [0, 1, 2, 3, 4, 5] rfl) h
set_option maxRecDepth 20000 in
set_option maxHeartbeats 4000000 in
theorem N_test_209 {p : Program} {l : Launch} {e : Env} {s : State} {m : MethodId} {args : Array Value} {below : List Frame} {meth : Method} {c : Code} {D : mD} {mb : Nat}   {x1 : Int32} {x2 : Int32} {x3 : Int32} {x4 : Int32} {x5 : Int32} {x6 : Int32} {y0 : Int32} {σ : mS} {H : Heap} {locs : List Loc} {ls : Array Slot} {q : Int32 × mS} (X : mX p s m args meth c cX12_test 12 (some .int) D) (hP : mP D mb σ H) (hF : mF mb s.heap H locs)  (hl : lv_has ls 12 [(0, .ref mb), (1, .int x1), (2, .int x2), (3, .int x3), (4, .int x4), (5, .int x5), (6, .int x6)]) (h : f_test_209  x1 x2 x3 x4 x5 x6 y0 σ = some q) : mWw p l e 1 23 s m args below meth c D mb q.2 (some (.int q.1)) H locs (F0 m 209 ls [.int y0]) := by
  have hx := X.1
  have hb := X.2.1
  have hown := X.2.2.2.1
  have hts := X.2.2.2.2.1
  have h : (if x6 = (0:Int32) then (f_test_251 (x1) (x2) (x3) (x6) (y0) σ) else (if x4 = (0:Int32) then (f_test_251 (x1) (x2) (x3) (x6) (y0) σ) else (if y0 = (0:Int32) then (f_test_251 (x1) (x2) (x3) (x6) (y0) σ) else ((rd σ 22 x5).bind (fun v1 => if v1 = (1:Int32) then (f_test_247 (x1) (x2) (x3) (x6) (y0) σ) else ((rd σ 21 x5).bind (fun v2 => if v2 < (0:Int32) then (f_test_251 (x1) (x2) (x3) (x6) (y0) σ) else (f_test_247 (x1) (x2) (x3) (x6) (y0) σ)))))))) = some q := h
  refine lv_istore hx hb dX12_test_209 hl (Nat.le_of_ble_eq_true rfl) rfl (fun ls (hl : lv_has ls 12 [(7, .int y0), (0, .ref mb), (1, .int x1), (2, .int x2), (3, .int x3), (4, .int x4), (5, .int x5), (6, .int x6)]) => ?_)
  refine lv_iload hx hb dX12_test_211 (lv_at hl 7 rfl) ?_
  refine lv_if_eq (tgt := 251) hx hb dX12_test_213 rfl (fun hc => ?_) (fun hc => ?_)
  · have h := ip hc h
    exact N_test_251 X hP hF (lv_sub hl [1, 2, 3, 4, 7, 0] rfl) h
  · have h := ine hc h
    refine lv_iload hx hb dX12_test_216 (lv_at hl 5 rfl) ?_
    refine lv_if_eq (tgt := 251) hx hb dX12_test_218 rfl (fun hc => ?_) (fun hc => ?_)
    · have h := ip hc h
      exact N_test_251 X hP hF (lv_sub hl [1, 2, 3, 4, 7, 0] rfl) h
    · have h := ine hc h
      refine lv_iload hx hb dX12_test_221 (lv_at hl 0 rfl) ?_
      refine lv_if_eq (tgt := 251) hx hb dX12_test_223 rfl (fun hc => ?_) (fun hc => ?_)
      · have h := ip hc h
        exact N_test_251 X hP hF (lv_sub hl [1, 2, 3, 4, 7, 0] rfl) h
      · have h := ine hc h
        refine lv_aload_n hx hb dX12_test_226 rfl (lv_at hl 1 rfl) ?_
        refine mg_hh X hP dX12_test_227 ?_
        refine lv_iload hx hb dX12_test_230 (lv_at hl 6 rfl) ?_
        obtain ⟨v1, hv1, h⟩ := ob h
        refine m_ald X hP hv1 dX12_test_232 ?_
        refine lv_iconst (v := (1:Int32)) hx hb dX12_test_233 (by decide) ?_
        refine lv_icmp_eq (tgt := 247) hx hb dX12_test_234 rfl (fun hc => ?_) (fun hc => ?_)
        · have h := ip hc h
          exact N_test_247 X hP hF (lv_sub hl [1, 2, 3, 4, 7, 0] rfl) h
        · have h := ine hc h
          refine lv_aload_n hx hb dX12_test_237 rfl (lv_at hl 1 rfl) ?_
          refine mg_hp X hP dX12_test_238 ?_
          refine lv_iload hx hb dX12_test_241 (lv_at hl 6 rfl) ?_
          obtain ⟨v2, hv2, h⟩ := ob h
          refine m_ald X hP hv2 dX12_test_243 ?_
          refine lv_if_lt (tgt := 251) hx hb dX12_test_244 rfl (fun hc => ?_) (fun hc => ?_)
          · have h := ip hc h
            exact N_test_251 X hP hF (lv_sub hl [1, 2, 3, 4, 7, 0] rfl) h
          · have h := ine hc h
            exact N_test_247 X hP hF (lv_sub hl [1, 2, 3, 4, 7, 0] rfl) h
set_option maxRecDepth 20000 in
set_option maxHeartbeats 4000000 in
theorem N_test_204 {p : Program} {l : Launch} {e : Env} {s : State} {m : MethodId} {args : Array Value} {below : List Frame} {meth : Method} {c : Code} {D : mD} {mb : Nat}   {x1 : Int32} {x2 : Int32} {x3 : Int32} {x4 : Int32} {x5 : Int32} {x6 : Int32} {σ : mS} {H : Heap} {locs : List Loc} {ls : Array Slot} {q : Int32 × mS} (X : mX p s m args meth c cX12_test 12 (some .int) D) (hP : mP D mb σ H) (hF : mF mb s.heap H locs)  (hl : lv_has ls 12 [(0, .ref mb), (1, .int x1), (2, .int x2), (3, .int x3), (4, .int x4), (5, .int x5), (6, .int x6)]) (h : f_test_204  x1 x2 x3 x4 x5 x6 σ = some q) : mWw p l e 1 23 s m args below meth c D mb q.2 (some (.int q.1)) H locs (F0 m 204 ls []) := by
  have hx := X.1
  have hb := X.2.1
  have hown := X.2.2.2.1
  have hts := X.2.2.2.2.1
  have h : (f_test_209 (x1) (x2) (x3) (x4) (x5) (x6) ((1:Int32)) σ) = some q := h
  refine lv_iconst (v := (1:Int32)) hx hb dX12_test_204 (by decide) ?_
  refine lv_goto (tgt := 209) hx hb dX12_test_205 rfl ?_
  exact N_test_209 X hP hF (lv_sub hl [0, 1, 2, 3, 4, 5, 6] rfl) h
set_option maxRecDepth 20000 in
set_option maxHeartbeats 4000000 in
theorem N_test_180 {p : Program} {l : Launch} {e : Env} {s : State} {m : MethodId} {args : Array Value} {below : List Frame} {meth : Method} {c : Code} {D : mD} {mb : Nat}   {x1 : Int32} {x2 : Int32} {x3 : Int32} {x4 : Int32} {x5 : Int32} {y0 : Int32} {y1 : Int32} {σ : mS} {H : Heap} {locs : List Loc} {ls : Array Slot} {q : Int32 × mS} (X : mX p s m args meth c cX12_test 12 (some .int) D) (hP : mP D mb σ H) (hF : mF mb s.heap H locs)  (hl : lv_has ls 12 [(0, .ref mb), (1, .int x1), (2, .int x2), (3, .int x3), (4, .int x4), (5, .int x5)]) (h : f_test_180  x1 x2 x3 x4 x5 y0 y1 σ = some q) : mWw p l e 1 23 s m args below meth c D mb q.2 (some (.int q.1)) H locs (F0 m 180 ls [.int y1, .int y0]) := by
  have hx := X.1
  have hb := X.2.1
  have hown := X.2.2.2.1
  have hts := X.2.2.2.2.1
  have h : (if x4 = (0:Int32) then (f_test_204 (x1) (x2) (x3) (x4) (x5) ((y0 &&& y1)) σ) else ((f_in (x5) ((0:Int32)) (((σ.2 26) - (1:Int32)))).bind (fun v1 => if v1 = (0:Int32) then (f_test_209 (x1) (x2) (x3) (x4) (x5) ((y0 &&& y1)) ((0:Int32)) σ) else (f_test_204 (x1) (x2) (x3) (x4) (x5) ((y0 &&& y1)) σ)))) = some q := h
  refine lv_iand hx hb dX12_test_180 ?_
  refine lv_istore hx hb dX12_test_181 hl (Nat.le_of_ble_eq_true rfl) rfl (fun ls (hl : lv_has ls 12 [(6, .int (y0 &&& y1)), (0, .ref mb), (1, .int x1), (2, .int x2), (3, .int x3), (4, .int x4), (5, .int x5)]) => ?_)
  refine lv_iload hx hb dX12_test_183 (lv_at hl 5 rfl) ?_
  refine lv_if_eq (tgt := 204) hx hb dX12_test_185 rfl (fun hc => ?_) (fun hc => ?_)
  · have h := ip hc h
    exact N_test_204 X hP hF (lv_sub hl [1, 2, 3, 4, 5, 6, 0] rfl) h
  · have h := ine hc h
    refine lv_aload_n hx hb dX12_test_188 rfl (lv_at hl 1 rfl) ?_
    refine lv_iload hx hb dX12_test_189 (lv_at hl 6 rfl) ?_
    refine lv_iconst (v := (0:Int32)) hx hb dX12_test_191 (by decide) ?_
    refine lv_aload_n hx hb dX12_test_192 rfl (lv_at hl 1 rfl) ?_
    refine mg_sels X hP dX12_test_193 ?_
    refine lv_iconst (v := (1:Int32)) hx hb dX12_test_196 (by decide) ?_
    refine lv_isub hx hb dX12_test_197 ?_
    obtain ⟨v1, hv1, h⟩ := ob h
    refine cl_in X hP hv1 ⟨Nat.le_of_ble_eq_true rfl, Nat.le_of_ble_eq_true rfl⟩ hl.1 (Nat.le_of_ble_eq_true rfl) dX12_test_198 ?_
    refine lv_if_eq (tgt := 208) hx hb dX12_test_201 rfl (fun hc => ?_) (fun hc => ?_)
    · have h := ip hc h
      refine lv_iconst (v := (0:Int32)) hx hb dX12_test_208 (by decide) ?_
      exact N_test_209 X hP hF (lv_sub hl [1, 2, 3, 4, 5, 6, 0] rfl) h
    · have h := ine hc h
      exact N_test_204 X hP hF (lv_sub hl [1, 2, 3, 4, 5, 6, 0] rfl) h
set_option maxRecDepth 20000 in
set_option maxHeartbeats 4000000 in
theorem N_test_175 {p : Program} {l : Launch} {e : Env} {s : State} {m : MethodId} {args : Array Value} {below : List Frame} {meth : Method} {c : Code} {D : mD} {mb : Nat}   {x1 : Int32} {x2 : Int32} {x3 : Int32} {x4 : Int32} {x5 : Int32} {y0 : Int32} {σ : mS} {H : Heap} {locs : List Loc} {ls : Array Slot} {q : Int32 × mS} (X : mX p s m args meth c cX12_test 12 (some .int) D) (hP : mP D mb σ H) (hF : mF mb s.heap H locs)  (hl : lv_has ls 12 [(0, .ref mb), (1, .int x1), (2, .int x2), (3, .int x3), (4, .int x4), (5, .int x5)]) (h : f_test_175  x1 x2 x3 x4 x5 y0 σ = some q) : mWw p l e 1 23 s m args below meth c D mb q.2 (some (.int q.1)) H locs (F0 m 175 ls [.int y0]) := by
  have hx := X.1
  have hb := X.2.1
  have hown := X.2.2.2.1
  have hts := X.2.2.2.2.1
  have h : (f_test_180 (x1) (x2) (x3) (x4) (x5) (y0) ((1:Int32)) σ) = some q := h
  refine lv_iconst (v := (1:Int32)) hx hb dX12_test_175 (by decide) ?_
  refine lv_goto (tgt := 180) hx hb dX12_test_176 rfl ?_
  exact N_test_180 X hP hF (lv_sub hl [0, 1, 2, 3, 4, 5] rfl) h
set_option maxRecDepth 20000 in
set_option maxHeartbeats 4000000 in
theorem N_test_154 {p : Program} {l : Launch} {e : Env} {s : State} {m : MethodId} {args : Array Value} {below : List Frame} {meth : Method} {c : Code} {D : mD} {mb : Nat}   {x1 : Int32} {x2 : Int32} {x3 : Int32} {x4 : Int32} {x5 : Int32} {y0 : Int32} {y1 : Int32} {σ : mS} {H : Heap} {locs : List Loc} {ls : Array Slot} {q : Int32 × mS} (X : mX p s m args meth c cX12_test 12 (some .int) D) (hP : mP D mb σ H) (hF : mF mb s.heap H locs)  (hl : lv_has ls 12 [(0, .ref mb), (1, .int x1), (2, .int x2), (3, .int x3), (4, .int x4), (5, .int x5)]) (h : f_test_154  x1 x2 x3 x4 x5 y0 y1 σ = some q) : mWw p l e 1 23 s m args below meth c D mb q.2 (some (.int q.1)) H locs (F0 m 154 ls [.int y1, .int y0]) := by
  have hx := X.1
  have hb := X.2.1
  have hown := X.2.2.2.1
  have hts := X.2.2.2.2.1
  have h : (if x1 = (7:Int32) then ((f_in (x2) ((0:Int32)) ((3:Int32))).bind (fun v1 => if v1 = (0:Int32) then (f_test_180 (x1) (x2) (x3) (x4) (x5) ((y0 &&& y1)) ((0:Int32)) σ) else (f_test_175 (x1) (x2) (x3) (x4) (x5) ((y0 &&& y1)) σ))) else (f_test_175 (x1) (x2) (x3) (x4) (x5) ((y0 &&& y1)) σ)) = some q := h
  refine lv_iand hx hb dX12_test_154 ?_
  refine lv_istore hx hb dX12_test_155 hl (Nat.le_of_ble_eq_true rfl) rfl (fun ls (hl : lv_has ls 12 [(6, .int (y0 &&& y1)), (0, .ref mb), (1, .int x1), (2, .int x2), (3, .int x3), (4, .int x4), (5, .int x5)]) => ?_)
  refine lv_iload hx hb dX12_test_157 (lv_at hl 0 rfl) ?_
  refine lv_iload_n hx hb dX12_test_159 rfl (lv_at hl 2 rfl) ?_
  refine lv_bipush (v := (7:Int32)) hx hb dX12_test_160 (by decide) ?_
  refine lv_icmp_ne (tgt := 175) hx hb dX12_test_162 rfl (fun hc => ?_) (fun hc => ?_)
  · have h := ine hc h
    exact N_test_175 X hP hF (lv_sub hl [1, 2, 3, 4, 5, 6] rfl) h
  · have h := ip hc h
    refine lv_aload_n hx hb dX12_test_165 rfl (lv_at hl 1 rfl) ?_
    refine lv_iload_n hx hb dX12_test_166 rfl (lv_at hl 3 rfl) ?_
    refine lv_iconst (v := (0:Int32)) hx hb dX12_test_167 (by decide) ?_
    refine lv_iconst (v := (3:Int32)) hx hb dX12_test_168 (by decide) ?_
    obtain ⟨v1, hv1, h⟩ := ob h
    refine cl_in X hP hv1 ⟨Nat.le_of_ble_eq_true rfl, Nat.le_of_ble_eq_true rfl⟩ hl.1 (Nat.le_of_ble_eq_true rfl) dX12_test_169 ?_
    refine lv_if_eq (tgt := 179) hx hb dX12_test_172 rfl (fun hc => ?_) (fun hc => ?_)
    · have h := ip hc h
      refine lv_iconst (v := (0:Int32)) hx hb dX12_test_179 (by decide) ?_
      exact N_test_180 X hP hF (lv_sub hl [1, 2, 3, 4, 5, 6] rfl) h
    · have h := ine hc h
      exact N_test_175 X hP hF (lv_sub hl [1, 2, 3, 4, 5, 6] rfl) h
set_option maxRecDepth 20000 in
set_option maxHeartbeats 4000000 in
theorem N_test_149 {p : Program} {l : Launch} {e : Env} {s : State} {m : MethodId} {args : Array Value} {below : List Frame} {meth : Method} {c : Code} {D : mD} {mb : Nat}   {x1 : Int32} {x2 : Int32} {x3 : Int32} {x4 : Int32} {x5 : Int32} {y0 : Int32} {σ : mS} {H : Heap} {locs : List Loc} {ls : Array Slot} {q : Int32 × mS} (X : mX p s m args meth c cX12_test 12 (some .int) D) (hP : mP D mb σ H) (hF : mF mb s.heap H locs)  (hl : lv_has ls 12 [(0, .ref mb), (1, .int x1), (2, .int x2), (3, .int x3), (4, .int x4), (5, .int x5)]) (h : f_test_149  x1 x2 x3 x4 x5 y0 σ = some q) : mWw p l e 1 23 s m args below meth c D mb q.2 (some (.int q.1)) H locs (F0 m 149 ls [.int y0]) := by
  have hx := X.1
  have hb := X.2.1
  have hown := X.2.2.2.1
  have hts := X.2.2.2.2.1
  have h : (f_test_154 (x1) (x2) (x3) (x4) (x5) (y0) ((1:Int32)) σ) = some q := h
  refine lv_iconst (v := (1:Int32)) hx hb dX12_test_149 (by decide) ?_
  refine lv_goto (tgt := 154) hx hb dX12_test_150 rfl ?_
  exact N_test_154 X hP hF (lv_sub hl [0, 1, 2, 3, 4, 5] rfl) h
set_option maxRecDepth 20000 in
set_option maxHeartbeats 4000000 in
theorem N_test_153 {p : Program} {l : Launch} {e : Env} {s : State} {m : MethodId} {args : Array Value} {below : List Frame} {meth : Method} {c : Code} {D : mD} {mb : Nat}   {x1 : Int32} {x2 : Int32} {x3 : Int32} {x4 : Int32} {x5 : Int32} {y0 : Int32} {σ : mS} {H : Heap} {locs : List Loc} {ls : Array Slot} {q : Int32 × mS} (X : mX p s m args meth c cX12_test 12 (some .int) D) (hP : mP D mb σ H) (hF : mF mb s.heap H locs)  (hl : lv_has ls 12 [(0, .ref mb), (1, .int x1), (2, .int x2), (3, .int x3), (4, .int x4), (5, .int x5)]) (h : f_test_153  x1 x2 x3 x4 x5 y0 σ = some q) : mWw p l e 1 23 s m args below meth c D mb q.2 (some (.int q.1)) H locs (F0 m 153 ls [.int y0]) := by
  have hx := X.1
  have hb := X.2.1
  have hown := X.2.2.2.1
  have hts := X.2.2.2.2.1
  have h : (f_test_154 (x1) (x2) (x3) (x4) (x5) (y0) ((0:Int32)) σ) = some q := h
  refine lv_iconst (v := (0:Int32)) hx hb dX12_test_153 (by decide) ?_
  exact N_test_154 X hP hF (lv_sub hl [0, 1, 2, 3, 4, 5] rfl) h
set_option maxRecDepth 20000 in
set_option maxHeartbeats 4000000 in
theorem N_test_116 {p : Program} {l : Launch} {e : Env} {s : State} {m : MethodId} {args : Array Value} {below : List Frame} {meth : Method} {c : Code} {D : mD} {mb : Nat}   {x1 : Int32} {x2 : Int32} {x3 : Int32} {x4 : Int32} {x5 : Int32} {y0 : Int32} {σ : mS} {H : Heap} {locs : List Loc} {ls : Array Slot} {q : Int32 × mS} (X : mX p s m args meth c cX12_test 12 (some .int) D) (hP : mP D mb σ H) (hF : mF mb s.heap H locs)  (hl : lv_has ls 12 [(0, .ref mb), (1, .int x1), (2, .int x2), (3, .int x3), (4, .int x4), (5, .int x5)]) (h : f_test_116  x1 x2 x3 x4 x5 y0 σ = some q) : mWw p l e 1 23 s m args below meth c D mb q.2 (some (.int q.1)) H locs (F0 m 116 ls [.int y0]) := by
  have hx := X.1
  have hb := X.2.1
  have hown := X.2.2.2.1
  have hts := X.2.2.2.2.1
  have h : (if x1 = (4:Int32) then ((f_in (x2) (((-9):Int32)) ((9:Int32))).bind (fun v1 => if v1 = (0:Int32) then (f_test_153 (x1) (x2) (x3) (x4) (x5) (y0) σ) else ((f_in (x3) (((-9):Int32)) ((9:Int32))).bind (fun v2 => if v2 = (0:Int32) then (f_test_153 (x1) (x2) (x3) (x4) (x5) (y0) σ) else (f_test_149 (x1) (x2) (x3) (x4) (x5) (y0) σ))))) else (f_test_149 (x1) (x2) (x3) (x4) (x5) (y0) σ)) = some q := h
  refine lv_istore hx hb dX12_test_116 hl (Nat.le_of_ble_eq_true rfl) rfl (fun ls (hl : lv_has ls 12 [(6, .int y0), (0, .ref mb), (1, .int x1), (2, .int x2), (3, .int x3), (4, .int x4), (5, .int x5)]) => ?_)
  refine lv_iload hx hb dX12_test_118 (lv_at hl 0 rfl) ?_
  refine lv_iload_n hx hb dX12_test_120 rfl (lv_at hl 2 rfl) ?_
  refine lv_iconst (v := (4:Int32)) hx hb dX12_test_121 (by decide) ?_
  refine lv_icmp_ne (tgt := 149) hx hb dX12_test_122 rfl (fun hc => ?_) (fun hc => ?_)
  · have h := ine hc h
    exact N_test_149 X hP hF (lv_sub hl [1, 2, 3, 4, 5, 6] rfl) h
  · have h := ip hc h
    refine lv_aload_n hx hb dX12_test_125 rfl (lv_at hl 1 rfl) ?_
    refine lv_iload_n hx hb dX12_test_126 rfl (lv_at hl 3 rfl) ?_
    refine lv_bipush (v := ((-9):Int32)) hx hb dX12_test_127 (by decide) ?_
    refine lv_bipush (v := (9:Int32)) hx hb dX12_test_129 (by decide) ?_
    obtain ⟨v1, hv1, h⟩ := ob h
    refine cl_in X hP hv1 ⟨Nat.le_of_ble_eq_true rfl, Nat.le_of_ble_eq_true rfl⟩ hl.1 (Nat.le_of_ble_eq_true rfl) dX12_test_131 ?_
    refine lv_if_eq (tgt := 153) hx hb dX12_test_134 rfl (fun hc => ?_) (fun hc => ?_)
    · have h := ip hc h
      exact N_test_153 X hP hF (lv_sub hl [1, 2, 3, 4, 5, 6] rfl) h
    · have h := ine hc h
      refine lv_aload_n hx hb dX12_test_137 rfl (lv_at hl 1 rfl) ?_
      refine lv_iload_n hx hb dX12_test_138 rfl (lv_at hl 4 rfl) ?_
      refine lv_bipush (v := ((-9):Int32)) hx hb dX12_test_139 (by decide) ?_
      refine lv_bipush (v := (9:Int32)) hx hb dX12_test_141 (by decide) ?_
      obtain ⟨v2, hv2, h⟩ := ob h
      refine cl_in X hP hv2 ⟨Nat.le_of_ble_eq_true rfl, Nat.le_of_ble_eq_true rfl⟩ hl.1 (Nat.le_of_ble_eq_true rfl) dX12_test_143 ?_
      refine lv_if_eq (tgt := 153) hx hb dX12_test_146 rfl (fun hc => ?_) (fun hc => ?_)
      · have h := ip hc h
        exact N_test_153 X hP hF (lv_sub hl [1, 2, 3, 4, 5, 6] rfl) h
      · have h := ine hc h
        exact N_test_149 X hP hF (lv_sub hl [1, 2, 3, 4, 5, 6] rfl) h
set_option maxRecDepth 20000 in
set_option maxHeartbeats 4000000 in
theorem N_test_115 {p : Program} {l : Launch} {e : Env} {s : State} {m : MethodId} {args : Array Value} {below : List Frame} {meth : Method} {c : Code} {D : mD} {mb : Nat}   {x1 : Int32} {x2 : Int32} {x3 : Int32} {x4 : Int32} {x5 : Int32} {σ : mS} {H : Heap} {locs : List Loc} {ls : Array Slot} {q : Int32 × mS} (X : mX p s m args meth c cX12_test 12 (some .int) D) (hP : mP D mb σ H) (hF : mF mb s.heap H locs)  (hl : lv_has ls 12 [(0, .ref mb), (1, .int x1), (2, .int x2), (3, .int x3), (4, .int x4), (5, .int x5)]) (h : f_test_115  x1 x2 x3 x4 x5 σ = some q) : mWw p l e 1 23 s m args below meth c D mb q.2 (some (.int q.1)) H locs (F0 m 115 ls []) := by
  have hx := X.1
  have hb := X.2.1
  have hown := X.2.2.2.1
  have hts := X.2.2.2.2.1
  have h : (f_test_116 (x1) (x2) (x3) (x4) (x5) ((0:Int32)) σ) = some q := h
  refine lv_iconst (v := (0:Int32)) hx hb dX12_test_115 (by decide) ?_
  exact N_test_116 X hP hF (lv_sub hl [0, 1, 2, 3, 4, 5] rfl) h
set_option maxRecDepth 20000 in
set_option maxHeartbeats 4000000 in
theorem N_test_111 {p : Program} {l : Launch} {e : Env} {s : State} {m : MethodId} {args : Array Value} {below : List Frame} {meth : Method} {c : Code} {D : mD} {mb : Nat}   {x1 : Int32} {x2 : Int32} {x3 : Int32} {x4 : Int32} {x5 : Int32} {σ : mS} {H : Heap} {locs : List Loc} {ls : Array Slot} {q : Int32 × mS} (X : mX p s m args meth c cX12_test 12 (some .int) D) (hP : mP D mb σ H) (hF : mF mb s.heap H locs)  (hl : lv_has ls 12 [(0, .ref mb), (1, .int x1), (2, .int x2), (3, .int x3), (4, .int x4), (5, .int x5)]) (h : f_test_111  x1 x2 x3 x4 x5 σ = some q) : mWw p l e 1 23 s m args below meth c D mb q.2 (some (.int q.1)) H locs (F0 m 111 ls []) := by
  have hx := X.1
  have hb := X.2.1
  have hown := X.2.2.2.1
  have hts := X.2.2.2.2.1
  have h : (f_test_116 (x1) (x2) (x3) (x4) (x5) ((1:Int32)) σ) = some q := h
  refine lv_iconst (v := (1:Int32)) hx hb dX12_test_111 (by decide) ?_
  refine lv_goto (tgt := 116) hx hb dX12_test_112 rfl ?_
  exact N_test_116 X hP hF (lv_sub hl [0, 1, 2, 3, 4, 5] rfl) h
set_option maxRecDepth 20000 in
set_option maxHeartbeats 4000000 in
theorem N_test_85 {p : Program} {l : Launch} {e : Env} {s : State} {m : MethodId} {args : Array Value} {below : List Frame} {meth : Method} {c : Code} {D : mD} {mb : Nat}   {x1 : Int32} {x2 : Int32} {x3 : Int32} {x4 : Int32} {x5 : Int32} {σ : mS} {H : Heap} {locs : List Loc} {ls : Array Slot} {q : Int32 × mS} (X : mX p s m args meth c cX12_test 12 (some .int) D) (hP : mP D mb σ H) (hF : mF mb s.heap H locs)  (hl : lv_has ls 12 [(0, .ref mb), (1, .int x1), (2, .int x2), (3, .int x3), (4, .int x4), (5, .int x5)]) (h : f_test_85  x1 x2 x3 x4 x5 σ = some q) : mWw p l e 1 23 s m args below meth c D mb q.2 (some (.int q.1)) H locs (F0 m 85 ls []) := by
  have hx := X.1
  have hb := X.2.1
  have hown := X.2.2.2.1
  have hts := X.2.2.2.2.1
  have h : (if x1 = (3:Int32) then ((f_in (x2) ((0:Int32)) ((1:Int32))).bind (fun v1 => if v1 = (0:Int32) then (f_test_115 (x1) (x2) (x3) (x4) (x5) σ) else ((f_in (x3) ((0:Int32)) ((9:Int32))).bind (fun v2 => if v2 = (0:Int32) then (f_test_115 (x1) (x2) (x3) (x4) (x5) σ) else (f_test_111 (x1) (x2) (x3) (x4) (x5) σ))))) else (f_test_111 (x1) (x2) (x3) (x4) (x5) σ)) = some q := h
  refine lv_iload_n hx hb dX12_test_85 rfl (lv_at hl 1 rfl) ?_
  refine lv_iconst (v := (3:Int32)) hx hb dX12_test_86 (by decide) ?_
  refine lv_icmp_ne (tgt := 111) hx hb dX12_test_87 rfl (fun hc => ?_) (fun hc => ?_)
  · have h := ine hc h
    exact N_test_111 X hP hF (lv_sub hl [0, 1, 2, 3, 4, 5] rfl) h
  · have h := ip hc h
    refine lv_aload_n hx hb dX12_test_90 rfl (lv_at hl 0 rfl) ?_
    refine lv_iload_n hx hb dX12_test_91 rfl (lv_at hl 2 rfl) ?_
    refine lv_iconst (v := (0:Int32)) hx hb dX12_test_92 (by decide) ?_
    refine lv_iconst (v := (1:Int32)) hx hb dX12_test_93 (by decide) ?_
    obtain ⟨v1, hv1, h⟩ := ob h
    refine cl_in X hP hv1 ⟨Nat.le_of_ble_eq_true rfl, Nat.le_of_ble_eq_true rfl⟩ hl.1 (Nat.le_of_ble_eq_true rfl) dX12_test_94 ?_
    refine lv_if_eq (tgt := 115) hx hb dX12_test_97 rfl (fun hc => ?_) (fun hc => ?_)
    · have h := ip hc h
      exact N_test_115 X hP hF (lv_sub hl [0, 1, 2, 3, 4, 5] rfl) h
    · have h := ine hc h
      refine lv_aload_n hx hb dX12_test_100 rfl (lv_at hl 0 rfl) ?_
      refine lv_iload_n hx hb dX12_test_101 rfl (lv_at hl 3 rfl) ?_
      refine lv_iconst (v := (0:Int32)) hx hb dX12_test_102 (by decide) ?_
      refine lv_bipush (v := (9:Int32)) hx hb dX12_test_103 (by decide) ?_
      obtain ⟨v2, hv2, h⟩ := ob h
      refine cl_in X hP hv2 ⟨Nat.le_of_ble_eq_true rfl, Nat.le_of_ble_eq_true rfl⟩ hl.1 (Nat.le_of_ble_eq_true rfl) dX12_test_105 ?_
      refine lv_if_eq (tgt := 115) hx hb dX12_test_108 rfl (fun hc => ?_) (fun hc => ?_)
      · have h := ip hc h
        exact N_test_115 X hP hF (lv_sub hl [0, 1, 2, 3, 4, 5] rfl) h
      · have h := ine hc h
        exact N_test_111 X hP hF (lv_sub hl [0, 1, 2, 3, 4, 5] rfl) h
set_option maxRecDepth 20000 in
set_option maxHeartbeats 4000000 in
theorem N_test_75 {p : Program} {l : Launch} {e : Env} {s : State} {m : MethodId} {args : Array Value} {below : List Frame} {meth : Method} {c : Code} {D : mD} {mb : Nat}   {x1 : Int32} {x2 : Int32} {x3 : Int32} {x4 : Int32} {x5 : Int32} {σ : mS} {H : Heap} {locs : List Loc} {ls : Array Slot} {q : Int32 × mS} (X : mX p s m args meth c cX12_test 12 (some .int) D) (hP : mP D mb σ H) (hF : mF mb s.heap H locs)  (hl : lv_has ls 12 [(0, .ref mb), (1, .int x1), (2, .int x2), (3, .int x3), (4, .int x4), (5, .int x5)]) (h : f_test_75  x1 x2 x3 x4 x5 σ = some q) : mWw p l e 1 23 s m args below meth c D mb q.2 (some (.int q.1)) H locs (F0 m 75 ls []) := by
  have hx := X.1
  have hb := X.2.1
  have hown := X.2.2.2.1
  have hts := X.2.2.2.2.1
  have h : ((f_in (x2) ((0:Int32)) ((3:Int32))).bind (fun v1 => if v1 = (0:Int32) then (f_test_115 (x1) (x2) (x3) (x4) (x5) σ) else (f_test_85 (x1) (x2) (x3) (x4) (x5) σ))) = some q := h
  refine lv_aload_n hx hb dX12_test_75 rfl (lv_at hl 0 rfl) ?_
  refine lv_iload_n hx hb dX12_test_76 rfl (lv_at hl 2 rfl) ?_
  refine lv_iconst (v := (0:Int32)) hx hb dX12_test_77 (by decide) ?_
  refine lv_iconst (v := (3:Int32)) hx hb dX12_test_78 (by decide) ?_
  obtain ⟨v1, hv1, h⟩ := ob h
  refine cl_in X hP hv1 ⟨Nat.le_of_ble_eq_true rfl, Nat.le_of_ble_eq_true rfl⟩ hl.1 (Nat.le_of_ble_eq_true rfl) dX12_test_79 ?_
  refine lv_if_eq (tgt := 115) hx hb dX12_test_82 rfl (fun hc => ?_) (fun hc => ?_)
  · have h := ip hc h
    exact N_test_115 X hP hF (lv_sub hl [0, 1, 2, 3, 4, 5] rfl) h
  · have h := ine hc h
    exact N_test_85 X hP hF (lv_sub hl [0, 1, 2, 3, 4, 5] rfl) h
set_option maxRecDepth 20000 in
set_option maxHeartbeats 4000000 in
theorem N_test_64 {p : Program} {l : Launch} {e : Env} {s : State} {m : MethodId} {args : Array Value} {below : List Frame} {meth : Method} {c : Code} {D : mD} {mb : Nat}   {x1 : Int32} {x2 : Int32} {x3 : Int32} {x4 : Int32} {x5 : Int32} {σ : mS} {H : Heap} {locs : List Loc} {ls : Array Slot} {q : Int32 × mS} (X : mX p s m args meth c cX12_test 12 (some .int) D) (hP : mP D mb σ H) (hF : mF mb s.heap H locs)  (hl : lv_has ls 12 [(0, .ref mb), (1, .int x1), (2, .int x2), (3, .int x3), (4, .int x4), (5, .int x5)]) (h : f_test_64  x1 x2 x3 x4 x5 σ = some q) : mWw p l e 1 23 s m args below meth c D mb q.2 (some (.int q.1)) H locs (F0 m 64 ls []) := by
  have hx := X.1
  have hb := X.2.1
  have hown := X.2.2.2.1
  have hts := X.2.2.2.2.1
  have h : (if x1 = (2:Int32) then (f_test_75 (x1) (x2) (x3) (x4) (x5) σ) else (if x1 = (9:Int32) then (f_test_75 (x1) (x2) (x3) (x4) (x5) σ) else (f_test_85 (x1) (x2) (x3) (x4) (x5) σ))) = some q := h
  refine lv_iload_n hx hb dX12_test_64 rfl (lv_at hl 1 rfl) ?_
  refine lv_iconst (v := (2:Int32)) hx hb dX12_test_65 (by decide) ?_
  refine lv_icmp_eq (tgt := 75) hx hb dX12_test_66 rfl (fun hc => ?_) (fun hc => ?_)
  · have h := ip hc h
    exact N_test_75 X hP hF (lv_sub hl [0, 1, 2, 3, 4, 5] rfl) h
  · have h := ine hc h
    refine lv_iload_n hx hb dX12_test_69 rfl (lv_at hl 1 rfl) ?_
    refine lv_bipush (v := (9:Int32)) hx hb dX12_test_70 (by decide) ?_
    refine lv_icmp_ne (tgt := 85) hx hb dX12_test_72 rfl (fun hc => ?_) (fun hc => ?_)
    · have h := ine hc h
      exact N_test_85 X hP hF (lv_sub hl [0, 1, 2, 3, 4, 5] rfl) h
    · have h := ip hc h
      exact N_test_75 X hP hF (lv_sub hl [0, 1, 2, 3, 4, 5] rfl) h
set_option maxRecDepth 20000 in
set_option maxHeartbeats 4000000 in
theorem N_test_35 {p : Program} {l : Launch} {e : Env} {s : State} {m : MethodId} {args : Array Value} {below : List Frame} {meth : Method} {c : Code} {D : mD} {mb : Nat}   {x1 : Int32} {x2 : Int32} {x3 : Int32} {x4 : Int32} {y0 : Int32} {σ : mS} {H : Heap} {locs : List Loc} {ls : Array Slot} {q : Int32 × mS} (X : mX p s m args meth c cX12_test 12 (some .int) D) (hP : mP D mb σ H) (hF : mF mb s.heap H locs)  (hl : lv_has ls 12 [(0, .ref mb), (1, .int x1), (2, .int x2), (3, .int x3), (4, .int x4)]) (h : f_test_35  x1 x2 x3 x4 y0 σ = some q) : mWw p l e 1 23 s m args below meth c D mb q.2 (some (.int q.1)) H locs (F0 m 35 ls [.int y0]) := by
  have hx := X.1
  have hb := X.2.1
  have hown := X.2.2.2.1
  have hts := X.2.2.2.2.1
  have h : ((f_in (x1) ((0:Int32)) ((9:Int32))).bind (fun v1 => if v1 = (0:Int32) then (f_test_115 (x1) (x2) (x3) (x4) (y0) σ) else (if (1:Int32) < x1 then (f_test_64 (x1) (x2) (x3) (x4) (y0) σ) else ((f_in (x2) ((0:Int32)) ((7:Int32))).bind (fun v2 => if v2 = (0:Int32) then (f_test_115 (x1) (x2) (x3) (x4) (y0) σ) else (f_test_64 (x1) (x2) (x3) (x4) (y0) σ)))))) = some q := h
  refine lv_istore hx hb dX12_test_35 hl (Nat.le_of_ble_eq_true rfl) rfl (fun ls (hl : lv_has ls 12 [(5, .int y0), (0, .ref mb), (1, .int x1), (2, .int x2), (3, .int x3), (4, .int x4)]) => ?_)
  refine lv_aload_n hx hb dX12_test_37 rfl (lv_at hl 1 rfl) ?_
  refine lv_iload_n hx hb dX12_test_38 rfl (lv_at hl 2 rfl) ?_
  refine lv_iconst (v := (0:Int32)) hx hb dX12_test_39 (by decide) ?_
  refine lv_bipush (v := (9:Int32)) hx hb dX12_test_40 (by decide) ?_
  obtain ⟨v1, hv1, h⟩ := ob h
  refine cl_in X hP hv1 ⟨Nat.le_of_ble_eq_true rfl, Nat.le_of_ble_eq_true rfl⟩ hl.1 (Nat.le_of_ble_eq_true rfl) dX12_test_42 ?_
  refine lv_if_eq (tgt := 115) hx hb dX12_test_45 rfl (fun hc => ?_) (fun hc => ?_)
  · have h := ip hc h
    exact N_test_115 X hP hF (lv_sub hl [1, 2, 3, 4, 5, 0] rfl) h
  · have h := ine hc h
    refine lv_iload_n hx hb dX12_test_48 rfl (lv_at hl 2 rfl) ?_
    refine lv_iconst (v := (1:Int32)) hx hb dX12_test_49 (by decide) ?_
    refine lv_icmp_gt (tgt := 64) hx hb dX12_test_50 rfl (fun hc => ?_) (fun hc => ?_)
    · have h := ip hc h
      exact N_test_64 X hP hF (lv_sub hl [1, 2, 3, 4, 5, 0] rfl) h
    · have h := ine hc h
      refine lv_aload_n hx hb dX12_test_53 rfl (lv_at hl 1 rfl) ?_
      refine lv_iload_n hx hb dX12_test_54 rfl (lv_at hl 3 rfl) ?_
      refine lv_iconst (v := (0:Int32)) hx hb dX12_test_55 (by decide) ?_
      refine lv_bipush (v := (7:Int32)) hx hb dX12_test_56 (by decide) ?_
      obtain ⟨v2, hv2, h⟩ := ob h
      refine cl_in X hP hv2 ⟨Nat.le_of_ble_eq_true rfl, Nat.le_of_ble_eq_true rfl⟩ hl.1 (Nat.le_of_ble_eq_true rfl) dX12_test_58 ?_
      refine lv_if_eq (tgt := 115) hx hb dX12_test_61 rfl (fun hc => ?_) (fun hc => ?_)
      · have h := ip hc h
        exact N_test_115 X hP hF (lv_sub hl [1, 2, 3, 4, 5, 0] rfl) h
      · have h := ine hc h
        exact N_test_64 X hP hF (lv_sub hl [1, 2, 3, 4, 5, 0] rfl) h
set_option maxRecDepth 20000 in
set_option maxHeartbeats 4000000 in
theorem N_test_22 {p : Program} {l : Launch} {e : Env} {s : State} {m : MethodId} {args : Array Value} {below : List Frame} {meth : Method} {c : Code} {D : mD} {mb : Nat}   {x1 : Int32} {x2 : Int32} {x3 : Int32} {y0 : Int32} {σ : mS} {H : Heap} {locs : List Loc} {ls : Array Slot} {q : Int32 × mS} (X : mX p s m args meth c cX12_test 12 (some .int) D) (hP : mP D mb σ H) (hF : mF mb s.heap H locs)  (hl : lv_has ls 12 [(0, .ref mb), (1, .int x1), (2, .int x2), (3, .int x3)]) (h : f_test_22  x1 x2 x3 y0 σ = some q) : mWw p l e 1 23 s m args below meth c D mb q.2 (some (.int q.1)) H locs (F0 m 22 ls [.int y0]) := by
  have hx := X.1
  have hb := X.2.1
  have hown := X.2.2.2.1
  have hts := X.2.2.2.2.1
  have h : (if x1 = (7:Int32) then (f_test_35 (x1) (x2) (x3) (y0) (x3) σ) else (f_test_35 (x1) (x2) (x3) (y0) (x2) σ)) = some q := h
  refine lv_istore hx hb dX12_test_22 hl (Nat.le_of_ble_eq_true rfl) rfl (fun ls (hl : lv_has ls 12 [(4, .int y0), (0, .ref mb), (1, .int x1), (2, .int x2), (3, .int x3)]) => ?_)
  refine lv_iload_n hx hb dX12_test_24 rfl (lv_at hl 2 rfl) ?_
  refine lv_bipush (v := (7:Int32)) hx hb dX12_test_25 (by decide) ?_
  refine lv_icmp_ne (tgt := 34) hx hb dX12_test_27 rfl (fun hc => ?_) (fun hc => ?_)
  · have h := ine hc h
    refine lv_iload_n hx hb dX12_test_34 rfl (lv_at hl 3 rfl) ?_
    exact N_test_35 X hP hF (lv_sub hl [1, 2, 3, 4, 0] rfl) h
  · have h := ip hc h
    refine lv_iload_n hx hb dX12_test_30 rfl (lv_at hl 4 rfl) ?_
    refine lv_goto (tgt := 35) hx hb dX12_test_31 rfl ?_
    exact N_test_35 X hP hF (lv_sub hl [1, 2, 3, 4, 0] rfl) h
set_option maxRecDepth 20000 in
set_option maxHeartbeats 4000000 in
theorem N_test_17 {p : Program} {l : Launch} {e : Env} {s : State} {m : MethodId} {args : Array Value} {below : List Frame} {meth : Method} {c : Code} {D : mD} {mb : Nat}   {x1 : Int32} {x2 : Int32} {x3 : Int32} {σ : mS} {H : Heap} {locs : List Loc} {ls : Array Slot} {q : Int32 × mS} (X : mX p s m args meth c cX12_test 12 (some .int) D) (hP : mP D mb σ H) (hF : mF mb s.heap H locs)  (hl : lv_has ls 12 [(0, .ref mb), (1, .int x1), (2, .int x2), (3, .int x3)]) (h : f_test_17  x1 x2 x3 σ = some q) : mWw p l e 1 23 s m args below meth c D mb q.2 (some (.int q.1)) H locs (F0 m 17 ls []) := by
  have hx := X.1
  have hb := X.2.1
  have hown := X.2.2.2.1
  have hts := X.2.2.2.2.1
  have h : (f_test_22 (x1) (x2) (x3) ((1:Int32)) σ) = some q := h
  refine lv_iconst (v := (1:Int32)) hx hb dX12_test_17 (by decide) ?_
  refine lv_goto (tgt := 22) hx hb dX12_test_18 rfl ?_
  exact N_test_22 X hP hF (lv_sub hl [0, 1, 2, 3] rfl) h
set_option maxRecDepth 20000 in
set_option maxHeartbeats 4000000 in
theorem K_test (l : Launch) (D : mD) (mb : Nat) (σ : mS) (x1 : Int32) (x2 : Int32) (x3 : Int32) {q : Int32 × mS} (h : f_test x1 x2 x3 σ = some q) : Met l yX12_test (Cond.code yX12_test cX12_test 12 (some .int) :: BG) (rM 1 23) (mPc D mb σ [.int x1, .int x2, .int x3]) (mQw D mb q.2 (some (.int q.1))) 0 0 (mReg mb) := by
  refine Met.ofW (cc := cX12_test) (maxL := 12) (ret := (some .int)) (by decide) rfl ?_
  intro p e s m args below meth c s₁ B hml hv
  obtain ⟨rfl, hP, hK⟩ := hv
  have X := mX_of B hml rfl hK
  have hx := X.1
  have hb := X.2.1
  have hown := X.2.2.2.1
  have hts := X.2.2.2.2.1
  have hl := lv_entry (.ref mb :: [.int x1, .int x2, .int x3]) (n := 12) (Nat.le_of_ble_eq_true rfl)
  rw [lg_entry_eq]
  generalize (lg_sl (.ref mb :: [.int x1, .int x2, .int x3]) ++ List.replicate (12 - (lg_sl (.ref mb :: [.int x1, .int x2, .int x3])).length) Slot.unset).toArray = ls at hl ⊢
  have hl : lv_has ls 12 [(0, .ref mb), (1, .int x1), (2, .int x2), (3, .int x3)] := hl
  have hF : mF mb s.heap s.heap [] := mF.rf
  show mWw p l e 1 23 s m (Value.ref mb :: [.int x1, .int x2, .int x3]).toArray below meth c D mb q.2 (some (.int q.1)) s.heap [] (F0 m 0 ls [])
  have h : (if x1 = (5:Int32) then (f_test_17 (x1) (x2) (x3) σ) else (if x1 = (6:Int32) then (f_test_17 (x1) (x2) (x3) σ) else (if x1 = (7:Int32) then (f_test_17 (x1) (x2) (x3) σ) else (f_test_22 (x1) (x2) (x3) ((0:Int32)) σ)))) = some q := h
  refine lv_iload_n hx hb dX12_test_0 rfl (lv_at hl 1 rfl) ?_
  refine lv_iconst (v := (5:Int32)) hx hb dX12_test_1 (by decide) ?_
  refine lv_icmp_eq (tgt := 17) hx hb dX12_test_2 rfl (fun hc => ?_) (fun hc => ?_)
  · have h := ip hc h
    exact N_test_17 X hP hF (lv_sub hl [0, 1, 2, 3] rfl) h
  · have h := ine hc h
    refine lv_iload_n hx hb dX12_test_5 rfl (lv_at hl 1 rfl) ?_
    refine lv_bipush (v := (6:Int32)) hx hb dX12_test_6 (by decide) ?_
    refine lv_icmp_eq (tgt := 17) hx hb dX12_test_8 rfl (fun hc => ?_) (fun hc => ?_)
    · have h := ip hc h
      exact N_test_17 X hP hF (lv_sub hl [0, 1, 2, 3] rfl) h
    · have h := ine hc h
      refine lv_iload_n hx hb dX12_test_11 rfl (lv_at hl 1 rfl) ?_
      refine lv_bipush (v := (7:Int32)) hx hb dX12_test_12 (by decide) ?_
      refine lv_icmp_ne (tgt := 21) hx hb dX12_test_14 rfl (fun hc => ?_) (fun hc => ?_)
      · have h := ine hc h
        refine lv_iconst (v := (0:Int32)) hx hb dX12_test_21 (by decide) ?_
        exact N_test_22 X hP hF (lv_sub hl [0, 1, 2, 3] rfl) h
      · have h := ip hc h
        exact N_test_17 X hP hF (lv_sub hl [0, 1, 2, 3] rfl) h
-- join(I)I
def f_join_41  (x1 : Int32) (y1 : Int32) (σ : mS) : Option (Int32 × mS) := (f_holds (y1) σ).bind (fun v1 => if v1.1 = (0:Int32) then ((rd v1.2 14 (30:Int32)).bind (fun v2 => (wr v1.2 15 ((120:Int32) + v2) x1).bind (fun s3 => (rd s3 14 (30:Int32)).bind (fun v4 => (wr s3 14 (30:Int32) (v4 + (1:Int32))).bind (fun s5 => (rd s5 14 (30:Int32)).bind (fun v6 => some (v6, s5))))))) else (some (((-1):Int32), v1.2)))
def f_join_36  (x1 : Int32) (σ : mS) : Option (Int32 × mS) := f_join_41 (x1) ((2:Int32)) σ
def f_join (x1 : Int32) (σ : mS) : Option (Int32 × mS) := (f_in (x1) ((0:Int32)) ((3:Int32))).bind (fun v1 => if v1 = (0:Int32) then (f_join_41 (x1) ((1:Int32)) σ) else ((rd σ 14 (30:Int32)).bind (fun v2 => if v2 = (4:Int32) then (f_join_36 (x1) σ) else ((rd σ 21 (30:Int32)).bind (fun v3 => if v3 < (0:Int32) then (f_join_41 (x1) ((0:Int32)) σ) else (f_join_36 (x1) σ))))))
set_option maxRecDepth 20000 in
set_option maxHeartbeats 4000000 in
theorem N_join_41 {p : Program} {l : Launch} {e : Env} {s : State} {m : MethodId} {args : Array Value} {below : List Frame} {meth : Method} {c : Code} {D : mD} {mb : Nat}   {x1 : Int32} {y1 : Int32} {σ : mS} {H : Heap} {locs : List Loc} {ls : Array Slot} {q : Int32 × mS} (X : mX p s m args meth c cX12_join 2 (some .int) D) (hP : mP D mb σ H) (hF : mF mb s.heap H locs)  (hl : lv_has ls 2 [(0, .ref mb), (1, .int x1)]) (h : f_join_41  x1 y1 σ = some q) : mWw p l e 1 23 s m args below meth c D mb q.2 (some (.int q.1)) H locs (F0 m 41 ls [.int y1, .ref mb]) := by
  have hx := X.1
  have hb := X.2.1
  have hown := X.2.2.2.1
  have hts := X.2.2.2.2.1
  have h : ((f_holds (y1) σ).bind (fun v1 => if v1.1 = (0:Int32) then ((rd v1.2 14 (30:Int32)).bind (fun v2 => (wr v1.2 15 ((120:Int32) + v2) x1).bind (fun s3 => (rd s3 14 (30:Int32)).bind (fun v4 => (wr s3 14 (30:Int32) (v4 + (1:Int32))).bind (fun s5 => (rd s5 14 (30:Int32)).bind (fun v6 => some (v6, s5))))))) else (some (((-1):Int32), v1.2)))) = some q := h
  obtain ⟨v1, hv1, h⟩ := ob h
  refine cl_holds X hP hF hv1 ⟨Nat.le_of_ble_eq_true rfl, Nat.le_of_ble_eq_true rfl⟩ hl.1 (Nat.le_of_ble_eq_true rfl) dX12_join_41 (fun H locs hP hF => ?_)
  refine lv_if_eq (tgt := 49) hx hb dX12_join_44 rfl (fun hc => ?_) (fun hc => ?_)
  · have h := ip hc h
    refine lv_aload_n hx hb dX12_join_49 rfl (lv_at hl 0 rfl) ?_
    refine mg_cb X hP dX12_join_50 ?_
    refine lv_bipush (v := (120:Int32)) hx hb dX12_join_53 (by decide) ?_
    refine lv_aload_n hx hb dX12_join_55 rfl (lv_at hl 0 rfl) ?_
    refine mg_nc X hP dX12_join_56 ?_
    refine lv_bipush (v := (30:Int32)) hx hb dX12_join_59 (by decide) ?_
    obtain ⟨v2, hv2, h⟩ := ob h
    refine m_ald X hP hv2 dX12_join_61 ?_
    refine lv_iadd hx hb dX12_join_62 ?_
    refine lv_iload_n hx hb dX12_join_63 rfl (lv_at hl 1 rfl) ?_
    obtain ⟨s3, hs3, h⟩ := ob h
    refine m_ast X hP hF hs3 dX12_join_64 (fun H locs hP hF => ?_)
    refine lv_aload_n hx hb dX12_join_65 rfl (lv_at hl 0 rfl) ?_
    refine mg_nc X hP dX12_join_66 ?_
    refine lv_bipush (v := (30:Int32)) hx hb dX12_join_69 (by decide) ?_
    refine lv_dup2_11 hx hb dX12_join_71 rfl rfl ?_
    obtain ⟨v4, hv4, h⟩ := ob h
    refine m_ald X hP hv4 dX12_join_72 ?_
    refine lv_iconst (v := (1:Int32)) hx hb dX12_join_73 (by decide) ?_
    refine lv_iadd hx hb dX12_join_74 ?_
    obtain ⟨s5, hs5, h⟩ := ob h
    refine m_ast X hP hF hs5 dX12_join_75 (fun H locs hP hF => ?_)
    refine lv_aload_n hx hb dX12_join_76 rfl (lv_at hl 0 rfl) ?_
    refine mg_nc X hP dX12_join_77 ?_
    refine lv_bipush (v := (30:Int32)) hx hb dX12_join_80 (by decide) ?_
    obtain ⟨v6, hv6, h⟩ := ob h
    refine m_ald X hP hv6 dX12_join_82 ?_
    obtain rfl := sj h
    exact m_wi X hP hF dX12_join_83
  · have h := ine hc h
    refine lv_iconst (v := ((-1):Int32)) hx hb dX12_join_47 (by decide) ?_
    obtain rfl := sj h
    exact m_wi X hP hF dX12_join_48
set_option maxRecDepth 20000 in
set_option maxHeartbeats 4000000 in
theorem N_join_36 {p : Program} {l : Launch} {e : Env} {s : State} {m : MethodId} {args : Array Value} {below : List Frame} {meth : Method} {c : Code} {D : mD} {mb : Nat}   {x1 : Int32} {σ : mS} {H : Heap} {locs : List Loc} {ls : Array Slot} {q : Int32 × mS} (X : mX p s m args meth c cX12_join 2 (some .int) D) (hP : mP D mb σ H) (hF : mF mb s.heap H locs)  (hl : lv_has ls 2 [(0, .ref mb), (1, .int x1)]) (h : f_join_36  x1 σ = some q) : mWw p l e 1 23 s m args below meth c D mb q.2 (some (.int q.1)) H locs (F0 m 36 ls [.ref mb]) := by
  have hx := X.1
  have hb := X.2.1
  have hown := X.2.2.2.1
  have hts := X.2.2.2.2.1
  have h : (f_join_41 (x1) ((2:Int32)) σ) = some q := h
  refine lv_iconst (v := (2:Int32)) hx hb dX12_join_36 (by decide) ?_
  refine lv_goto (tgt := 41) hx hb dX12_join_37 rfl ?_
  exact N_join_41 X hP hF (lv_sub hl [0, 1] rfl) h
set_option maxRecDepth 20000 in
set_option maxHeartbeats 4000000 in
theorem K_join (l : Launch) (D : mD) (mb : Nat) (σ : mS) (x1 : Int32) {q : Int32 × mS} (h : f_join x1 σ = some q) : Met l yX12_join (Cond.code yX12_join cX12_join 2 (some .int) :: BG) (rM 1 23) (mPc D mb σ [.int x1]) (mQw D mb q.2 (some (.int q.1))) 0 0 (mReg mb) := by
  refine Met.ofW (cc := cX12_join) (maxL := 2) (ret := (some .int)) (by decide) rfl ?_
  intro p e s m args below meth c s₁ B hml hv
  obtain ⟨rfl, hP, hK⟩ := hv
  have X := mX_of B hml rfl hK
  have hx := X.1
  have hb := X.2.1
  have hown := X.2.2.2.1
  have hts := X.2.2.2.2.1
  have hl := lv_entry (.ref mb :: [.int x1]) (n := 2) (Nat.le_of_ble_eq_true rfl)
  rw [lg_entry_eq]
  generalize (lg_sl (.ref mb :: [.int x1]) ++ List.replicate (2 - (lg_sl (.ref mb :: [.int x1])).length) Slot.unset).toArray = ls at hl ⊢
  have hl : lv_has ls 2 [(0, .ref mb), (1, .int x1)] := hl
  have hF : mF mb s.heap s.heap [] := mF.rf
  show mWw p l e 1 23 s m (Value.ref mb :: [.int x1]).toArray below meth c D mb q.2 (some (.int q.1)) s.heap [] (F0 m 0 ls [])
  have h : ((f_in (x1) ((0:Int32)) ((3:Int32))).bind (fun v1 => if v1 = (0:Int32) then (f_join_41 (x1) ((1:Int32)) σ) else ((rd σ 14 (30:Int32)).bind (fun v2 => if v2 = (4:Int32) then (f_join_36 (x1) σ) else ((rd σ 21 (30:Int32)).bind (fun v3 => if v3 < (0:Int32) then (f_join_41 (x1) ((0:Int32)) σ) else (f_join_36 (x1) σ))))))) = some q := h
  refine lv_aload_n hx hb dX12_join_0 rfl (lv_at hl 0 rfl) ?_
  refine lv_aload_n hx hb dX12_join_1 rfl (lv_at hl 0 rfl) ?_
  refine lv_iload_n hx hb dX12_join_2 rfl (lv_at hl 1 rfl) ?_
  refine lv_iconst (v := (0:Int32)) hx hb dX12_join_3 (by decide) ?_
  refine lv_iconst (v := (3:Int32)) hx hb dX12_join_4 (by decide) ?_
  obtain ⟨v1, hv1, h⟩ := ob h
  refine cl_in X hP hv1 ⟨Nat.le_of_ble_eq_true rfl, Nat.le_of_ble_eq_true rfl⟩ hl.1 (Nat.le_of_ble_eq_true rfl) dX12_join_5 ?_
  refine lv_if_ne (tgt := 15) hx hb dX12_join_8 rfl (fun hc => ?_) (fun hc => ?_)
  · have h := ine hc h
    refine lv_aload_n hx hb dX12_join_15 rfl (lv_at hl 0 rfl) ?_
    refine mg_nc X hP dX12_join_16 ?_
    refine lv_bipush (v := (30:Int32)) hx hb dX12_join_19 (by decide) ?_
    obtain ⟨v2, hv2, h⟩ := ob h
    refine m_ald X hP hv2 dX12_join_21 ?_
    refine lv_iconst (v := (4:Int32)) hx hb dX12_join_22 (by decide) ?_
    refine lv_icmp_eq (tgt := 36) hx hb dX12_join_23 rfl (fun hc => ?_) (fun hc => ?_)
    · have h := ip hc h
      exact N_join_36 X hP hF (lv_sub hl [0, 1] rfl) h
    · have h := ine hc h
      refine lv_aload_n hx hb dX12_join_26 rfl (lv_at hl 0 rfl) ?_
      refine mg_hp X hP dX12_join_27 ?_
      refine lv_bipush (v := (30:Int32)) hx hb dX12_join_30 (by decide) ?_
      obtain ⟨v3, hv3, h⟩ := ob h
      refine m_ald X hP hv3 dX12_join_32 ?_
      refine lv_if_lt (tgt := 40) hx hb dX12_join_33 rfl (fun hc => ?_) (fun hc => ?_)
      · have h := ip hc h
        refine lv_iconst (v := (0:Int32)) hx hb dX12_join_40 (by decide) ?_
        exact N_join_41 X hP hF (lv_sub hl [0, 1] rfl) h
      · have h := ine hc h
        exact N_join_36 X hP hF (lv_sub hl [0, 1] rfl) h
  · have h := ip hc h
    refine lv_iconst (v := (1:Int32)) hx hb dX12_join_11 (by decide) ?_
    refine lv_goto (tgt := 41) hx hb dX12_join_12 rfl ?_
    exact N_join_41 X hP hF (lv_sub hl [0, 1] rfl) h
-- select()I
def f_select_234 (k127 : Int32 → Int32 → mS → Option (Int32 × mS)) (x1 : Int32) (x2 : Int32) (y1 : Int32) (y2 : Int32) (y3 : Int32) (σ : mS) : Option (Int32 × mS) := (wr σ 20 y1 (y2 + y3)).bind (fun s1 => k127 (x1) ((x2 + (1:Int32))) s1)
def f_select_233 (k127 : Int32 → Int32 → mS → Option (Int32 × mS)) (x1 : Int32) (x2 : Int32) (y1 : Int32) (y2 : Int32) (σ : mS) : Option (Int32 × mS) := f_select_234 k127 (x1) (x2) (y1) (y2) ((0:Int32)) σ
def f_select_127  : Nat → Int32 → Int32 → mS → Option (Int32 × mS)
  | 0, _, _, _ => none
  | n + 1, x1, x2, σ => if (16:Int32) ≤ x2 then ((f_study (x1) (sf σ 26 ((σ.2 26) + (1:Int32)))).bind (fun v1 => (f_draft  v1).bind (fun v2 => some (x1, v2)))) else ((rd σ 17 ((480:Int32) + x2)).bind (fun v3 => (wr σ 17 (((16:Int32) * x1) + x2) v3).bind (fun s4 => (rd s4 18 ((480:Int32) + x2)).bind (fun v5 => (wr s4 18 (((16:Int32) * x1) + x2) v5).bind (fun s6 => (rd s6 19 ((480:Int32) + x2)).bind (fun v7 => (wr s6 19 (((16:Int32) * x1) + x2) v7).bind (fun s8 => (rd s8 20 x1).bind (fun v9 => (dv x2 (4:Int32)).bind (fun v10 => (rd s8 14 x1).bind (fun v11 => if v11 ≤ v10 then (f_select_233 (f_select_127 n) (x1) (x2) (x1) (v9) s8) else ((rm x2 (4:Int32)).bind (fun v12 => (dv x2 (4:Int32)).bind (fun v13 => (rd s8 16 (((4:Int32) * x1) + v13)).bind (fun v14 => if v14 ≤ v12 then (f_select_233 (f_select_127 n) (x1) (x2) (x1) (v9) s8) else ((f_weigh ((((16:Int32) * x1) + x2)) s8).bind (fun v15 => f_select_234 (f_select_127 n) (x1) (x2) (x1) (v9) (v15) s8))))))))))))))))
def f_select_76  : Nat → Int32 → Int32 → mS → Option (Int32 × mS)
  | 0, _, _, _ => none
  | n + 1, x1, x2, σ => if (4:Int32) ≤ x2 then (f_select_127 4000 (x1) ((0:Int32)) σ) else ((rd σ 15 ((120:Int32) + x2)).bind (fun v1 => (wr σ 15 (((4:Int32) * x1) + x2) v1).bind (fun s2 => (rd s2 16 ((120:Int32) + x2)).bind (fun v3 => (wr s2 16 (((4:Int32) * x1) + x2) v3).bind (fun s4 => f_select_76 n (x1) ((x2 + (1:Int32))) s4)))))
def f_select_15  (y1 : Int32) (σ : mS) : Option (Int32 × mS) := (f_holds (y1) σ).bind (fun v1 => if v1.1 = (0:Int32) then ((rd v1.2 14 (30:Int32)).bind (fun v2 => (wr v1.2 14 (v1.2.2 26) v2).bind (fun s3 => (rd s3 21 (30:Int32)).bind (fun v4 => (wr s3 21 (v1.2.2 26) v4).bind (fun s5 => (rd s5 22 (30:Int32)).bind (fun v6 => (wr s5 22 (v1.2.2 26) v6).bind (fun s7 => (wr s7 20 (v1.2.2 26) (0:Int32)).bind (fun s8 => f_select_76 4000 ((v1.2.2 26)) ((0:Int32)) s8)))))))) else (some (((-1):Int32), v1.2)))
def f_select  (σ : mS) : Option (Int32 × mS) := if (σ.2 26) = (30:Int32) then (f_select_15 ((1:Int32)) σ) else (f_select_15 ((0:Int32)) σ)
set_option maxRecDepth 20000 in
set_option maxHeartbeats 4000000 in
theorem N_select_234 {p : Program} {l : Launch} {e : Env} {s : State} {m : MethodId} {args : Array Value} {below : List Frame} {meth : Method} {c : Code} {D : mD} {mb : Nat} {k127 : Int32 → Int32 → mS → Option (Int32 × mS)}  {x1 : Int32} {x2 : Int32} {y1 : Int32} {y2 : Int32} {y3 : Int32} {σ : mS} {H : Heap} {locs : List Loc} {ls : Array Slot} {q : Int32 × mS} (X : mX p s m args meth c cX12_select 4 (some .int) D) (hP : mP D mb σ H) (hF : mF mb s.heap H locs) (hk127 : ∀ {x1 : Int32} {x2 : Int32} {σ : mS} {H : Heap} {locs : List Loc} {ls : Array Slot}, mP D mb σ H → mF mb s.heap H locs → lv_has ls 4 [(0, .ref mb), (1, .int x1), (2, .int x2)] → k127 x1 x2 σ = some q → mWw p l e 2 54 s m args below meth c D mb q.2 (some (.int q.1)) H locs (F0 m 127 ls [])) (hl : lv_has ls 4 [(0, .ref mb), (1, .int x1), (2, .int x2)]) (h : f_select_234 k127 x1 x2 y1 y2 y3 σ = some q) : mWw p l e 2 54 s m args below meth c D mb q.2 (some (.int q.1)) H locs (F0 m 234 ls [.int y3, .int y2, .int y1, .ref (mA mb 20)]) := by
  have hx := X.1
  have hb := X.2.1
  have hown := X.2.2.2.1
  have hts := X.2.2.2.2.1
  have h : ((wr σ 20 y1 (y2 + y3)).bind (fun s1 => k127 (x1) ((x2 + (1:Int32))) s1)) = some q := h
  refine lv_iadd hx hb dX12_select_234 ?_
  obtain ⟨s1, hs1, h⟩ := ob h
  refine m_ast X hP hF hs1 dX12_select_235 (fun H locs hP hF => ?_)
  refine lv_iinc (v := (x2 + (1:Int32))) hx hb dX12_select_236 hl (k := 2) rfl rfl (Nat.le_of_ble_eq_true rfl) rfl (fun ls (hl : lv_has ls 4 [(2, .int (x2 + (1:Int32))), (0, .ref mb), (1, .int x1)]) => ?_)
  refine lv_goto (tgt := 127) hx hb dX12_select_239 rfl ?_
  exact hk127 hP hF (lv_sub hl [1, 2, 0] rfl) h
set_option maxRecDepth 20000 in
set_option maxHeartbeats 4000000 in
theorem N_select_233 {p : Program} {l : Launch} {e : Env} {s : State} {m : MethodId} {args : Array Value} {below : List Frame} {meth : Method} {c : Code} {D : mD} {mb : Nat} {k127 : Int32 → Int32 → mS → Option (Int32 × mS)}  {x1 : Int32} {x2 : Int32} {y1 : Int32} {y2 : Int32} {σ : mS} {H : Heap} {locs : List Loc} {ls : Array Slot} {q : Int32 × mS} (X : mX p s m args meth c cX12_select 4 (some .int) D) (hP : mP D mb σ H) (hF : mF mb s.heap H locs) (hk127 : ∀ {x1 : Int32} {x2 : Int32} {σ : mS} {H : Heap} {locs : List Loc} {ls : Array Slot}, mP D mb σ H → mF mb s.heap H locs → lv_has ls 4 [(0, .ref mb), (1, .int x1), (2, .int x2)] → k127 x1 x2 σ = some q → mWw p l e 2 54 s m args below meth c D mb q.2 (some (.int q.1)) H locs (F0 m 127 ls [])) (hl : lv_has ls 4 [(0, .ref mb), (1, .int x1), (2, .int x2)]) (h : f_select_233 k127 x1 x2 y1 y2 σ = some q) : mWw p l e 2 54 s m args below meth c D mb q.2 (some (.int q.1)) H locs (F0 m 233 ls [.int y2, .int y1, .ref (mA mb 20)]) := by
  have hx := X.1
  have hb := X.2.1
  have hown := X.2.2.2.1
  have hts := X.2.2.2.2.1
  have h : (f_select_234 k127 (x1) (x2) (y1) (y2) ((0:Int32)) σ) = some q := h
  refine lv_iconst (v := (0:Int32)) hx hb dX12_select_233 (by decide) ?_
  exact N_select_234 X hP hF hk127 (lv_sub hl [0, 1, 2] rfl) h
set_option maxRecDepth 20000 in
set_option maxHeartbeats 4000000 in
theorem N_select_127 {p : Program} {l : Launch} {e : Env} {s : State} {m : MethodId} {args : Array Value} {below : List Frame} {meth : Method} {c : Code} {D : mD} {mb : Nat}  {n : Nat} {x1 : Int32} {x2 : Int32} {σ : mS} {H : Heap} {locs : List Loc} {ls : Array Slot} {q : Int32 × mS} (X : mX p s m args meth c cX12_select 4 (some .int) D) (hP : mP D mb σ H) (hF : mF mb s.heap H locs)  (hl : lv_has ls 4 [(0, .ref mb), (1, .int x1), (2, .int x2)]) (h : f_select_127  n x1 x2 σ = some q) : mWw p l e 2 54 s m args below meth c D mb q.2 (some (.int q.1)) H locs (F0 m 127 ls []) := by
  have hx := X.1
  have hb := X.2.1
  have hown := X.2.2.2.1
  have hts := X.2.2.2.2.1
  induction n generalizing x1 x2 σ H locs ls with
  | zero => exact absurd (show none = some q from h) (by simp)
  | succ n ih =>
    have h : (if (16:Int32) ≤ x2 then ((f_study (x1) (sf σ 26 ((σ.2 26) + (1:Int32)))).bind (fun v1 => (f_draft  v1).bind (fun v2 => some (x1, v2)))) else ((rd σ 17 ((480:Int32) + x2)).bind (fun v3 => (wr σ 17 (((16:Int32) * x1) + x2) v3).bind (fun s4 => (rd s4 18 ((480:Int32) + x2)).bind (fun v5 => (wr s4 18 (((16:Int32) * x1) + x2) v5).bind (fun s6 => (rd s6 19 ((480:Int32) + x2)).bind (fun v7 => (wr s6 19 (((16:Int32) * x1) + x2) v7).bind (fun s8 => (rd s8 20 x1).bind (fun v9 => (dv x2 (4:Int32)).bind (fun v10 => (rd s8 14 x1).bind (fun v11 => if v11 ≤ v10 then (f_select_233 (f_select_127 n) (x1) (x2) (x1) (v9) s8) else ((rm x2 (4:Int32)).bind (fun v12 => (dv x2 (4:Int32)).bind (fun v13 => (rd s8 16 (((4:Int32) * x1) + v13)).bind (fun v14 => if v14 ≤ v12 then (f_select_233 (f_select_127 n) (x1) (x2) (x1) (v9) s8) else ((f_weigh ((((16:Int32) * x1) + x2)) s8).bind (fun v15 => f_select_234 (f_select_127 n) (x1) (x2) (x1) (v9) (v15) s8))))))))))))))))) = some q := h
    refine lv_iload_n hx hb dX12_select_127 rfl (lv_at hl 2 rfl) ?_
    refine lv_bipush (v := (16:Int32)) hx hb dX12_select_128 (by decide) ?_
    refine lv_icmp_ge (tgt := 242) hx hb dX12_select_130 rfl (fun hc => ?_) (fun hc => ?_)
    · have h := ip hc h
      refine lv_aload_n hx hb dX12_select_242 rfl (lv_at hl 0 rfl) ?_
      refine lv_dup hx hb dX12_select_243 rfl ?_
      refine mg_sels X hP dX12_select_244 ?_
      refine lv_iconst (v := (1:Int32)) hx hb dX12_select_247 (by decide) ?_
      refine lv_iadd hx hb dX12_select_248 ?_
      refine mp_sels X hP hF dX12_select_249 (fun H locs hP hF => ?_)
      refine lv_aload_n hx hb dX12_select_252 rfl (lv_at hl 0 rfl) ?_
      refine lv_iload_n hx hb dX12_select_253 rfl (lv_at hl 1 rfl) ?_
      obtain ⟨v1, hv1, h⟩ := ob h
      refine cl_study X hP hF hv1 ⟨Nat.le_of_ble_eq_true rfl, Nat.le_of_ble_eq_true rfl⟩ hl.1 (Nat.le_of_ble_eq_true rfl) dX12_select_254 (fun H locs hP hF => ?_)
      refine lv_aload_n hx hb dX12_select_257 rfl (lv_at hl 0 rfl) ?_
      obtain ⟨v2, hv2, h⟩ := ob h
      refine cl_draft X hP hF hv2 ⟨Nat.le_of_ble_eq_true rfl, Nat.le_of_ble_eq_true rfl⟩ hl.1 (Nat.le_of_ble_eq_true rfl) dX12_select_258 (fun H locs hP hF => ?_)
      refine lv_iload_n hx hb dX12_select_261 rfl (lv_at hl 1 rfl) ?_
      obtain rfl := sj h
      exact m_wi X hP hF dX12_select_262
    · have h := ine hc h
      refine lv_bipush (v := (16:Int32)) hx hb dX12_select_133 (by decide) ?_
      refine lv_iload_n hx hb dX12_select_135 rfl (lv_at hl 1 rfl) ?_
      refine lv_imul hx hb dX12_select_136 ?_
      refine lv_iload_n hx hb dX12_select_137 rfl (lv_at hl 2 rfl) ?_
      refine lv_iadd hx hb dX12_select_138 ?_
      refine lv_istore_n hx hb dX12_select_139 rfl hl (Nat.le_of_ble_eq_true rfl) rfl (fun ls (hl : lv_has ls 4 [(3, .int (((16:Int32) * x1) + x2)), (0, .ref mb), (1, .int x1), (2, .int x2)]) => ?_)
      refine lv_aload_n hx hb dX12_select_140 rfl (lv_at hl 1 rfl) ?_
      refine mg_tk X hP dX12_select_141 ?_
      refine lv_iload_n hx hb dX12_select_144 rfl (lv_at hl 0 rfl) ?_
      refine lv_aload_n hx hb dX12_select_145 rfl (lv_at hl 1 rfl) ?_
      refine mg_tk X hP dX12_select_146 ?_
      refine lv_sipush (v := (480:Int32)) hx hb dX12_select_149 (by decide) ?_
      refine lv_iload_n hx hb dX12_select_152 rfl (lv_at hl 3 rfl) ?_
      refine lv_iadd hx hb dX12_select_153 ?_
      obtain ⟨v3, hv3, h⟩ := ob h
      refine m_ald X hP hv3 dX12_select_154 ?_
      obtain ⟨s4, hs4, h⟩ := ob h
      refine m_ast X hP hF hs4 dX12_select_155 (fun H locs hP hF => ?_)
      refine lv_aload_n hx hb dX12_select_156 rfl (lv_at hl 1 rfl) ?_
      refine mg_ta X hP dX12_select_157 ?_
      refine lv_iload_n hx hb dX12_select_160 rfl (lv_at hl 0 rfl) ?_
      refine lv_aload_n hx hb dX12_select_161 rfl (lv_at hl 1 rfl) ?_
      refine mg_ta X hP dX12_select_162 ?_
      refine lv_sipush (v := (480:Int32)) hx hb dX12_select_165 (by decide) ?_
      refine lv_iload_n hx hb dX12_select_168 rfl (lv_at hl 3 rfl) ?_
      refine lv_iadd hx hb dX12_select_169 ?_
      obtain ⟨v5, hv5, h⟩ := ob h
      refine m_ald X hP hv5 dX12_select_170 ?_
      obtain ⟨s6, hs6, h⟩ := ob h
      refine m_ast X hP hF hs6 dX12_select_171 (fun H locs hP hF => ?_)
      refine lv_aload_n hx hb dX12_select_172 rfl (lv_at hl 1 rfl) ?_
      refine mg_tb X hP dX12_select_173 ?_
      refine lv_iload_n hx hb dX12_select_176 rfl (lv_at hl 0 rfl) ?_
      refine lv_aload_n hx hb dX12_select_177 rfl (lv_at hl 1 rfl) ?_
      refine mg_tb X hP dX12_select_178 ?_
      refine lv_sipush (v := (480:Int32)) hx hb dX12_select_181 (by decide) ?_
      refine lv_iload_n hx hb dX12_select_184 rfl (lv_at hl 3 rfl) ?_
      refine lv_iadd hx hb dX12_select_185 ?_
      obtain ⟨v7, hv7, h⟩ := ob h
      refine m_ald X hP hv7 dX12_select_186 ?_
      obtain ⟨s8, hs8, h⟩ := ob h
      refine m_ast X hP hF hs8 dX12_select_187 (fun H locs hP hF => ?_)
      refine lv_aload_n hx hb dX12_select_188 rfl (lv_at hl 1 rfl) ?_
      refine mg_wt X hP dX12_select_189 ?_
      refine lv_iload_n hx hb dX12_select_192 rfl (lv_at hl 2 rfl) ?_
      refine lv_dup2_11 hx hb dX12_select_193 rfl rfl ?_
      obtain ⟨v9, hv9, h⟩ := ob h
      refine m_ald X hP hv9 dX12_select_194 ?_
      refine lv_iload_n hx hb dX12_select_195 rfl (lv_at hl 3 rfl) ?_
      refine lv_iconst (v := (4:Int32)) hx hb dX12_select_196 (by decide) ?_
      obtain ⟨v10, hv10, h⟩ := ob h
      obtain ⟨hnv10, hev10⟩ := dv_spec hv10
      refine lv_idiv hx hb dX12_select_197 hnv10 ?_
      rw [hev10]
      refine lv_aload_n hx hb dX12_select_198 rfl (lv_at hl 1 rfl) ?_
      refine mg_nc X hP dX12_select_199 ?_
      refine lv_iload_n hx hb dX12_select_202 rfl (lv_at hl 2 rfl) ?_
      obtain ⟨v11, hv11, h⟩ := ob h
      refine m_ald X hP hv11 dX12_select_203 ?_
      refine lv_icmp_ge (tgt := 233) hx hb dX12_select_204 rfl (fun hc => ?_) (fun hc => ?_)
      · have h := ip hc h
        exact N_select_233 X hP hF ih (lv_sub hl [1, 2, 3] rfl) h
      · have h := ine hc h
        refine lv_iload_n hx hb dX12_select_207 rfl (lv_at hl 3 rfl) ?_
        refine lv_iconst (v := (4:Int32)) hx hb dX12_select_208 (by decide) ?_
        obtain ⟨v12, hv12, h⟩ := ob h
        obtain ⟨hnv12, hev12⟩ := rm_spec hv12
        refine lv_irem hx hb dX12_select_209 hnv12 ?_
        rw [hev12]
        refine lv_aload_n hx hb dX12_select_210 rfl (lv_at hl 1 rfl) ?_
        refine mg_nt X hP dX12_select_211 ?_
        refine lv_iconst (v := (4:Int32)) hx hb dX12_select_214 (by decide) ?_
        refine lv_iload_n hx hb dX12_select_215 rfl (lv_at hl 2 rfl) ?_
        refine lv_imul hx hb dX12_select_216 ?_
        refine lv_iload_n hx hb dX12_select_217 rfl (lv_at hl 3 rfl) ?_
        refine lv_iconst (v := (4:Int32)) hx hb dX12_select_218 (by decide) ?_
        obtain ⟨v13, hv13, h⟩ := ob h
        obtain ⟨hnv13, hev13⟩ := dv_spec hv13
        refine lv_idiv hx hb dX12_select_219 hnv13 ?_
        rw [hev13]
        refine lv_iadd hx hb dX12_select_220 ?_
        obtain ⟨v14, hv14, h⟩ := ob h
        refine m_ald X hP hv14 dX12_select_221 ?_
        refine lv_icmp_ge (tgt := 233) hx hb dX12_select_222 rfl (fun hc => ?_) (fun hc => ?_)
        · have h := ip hc h
          exact N_select_233 X hP hF ih (lv_sub hl [1, 2, 3] rfl) h
        · have h := ine hc h
          refine lv_aload_n hx hb dX12_select_225 rfl (lv_at hl 1 rfl) ?_
          refine lv_iload_n hx hb dX12_select_226 rfl (lv_at hl 0 rfl) ?_
          obtain ⟨v15, hv15, h⟩ := ob h
          refine cl_weigh X hP hv15 ⟨Nat.le_of_ble_eq_true rfl, Nat.le_of_ble_eq_true rfl⟩ hl.1 (Nat.le_of_ble_eq_true rfl) dX12_select_227 ?_
          refine lv_goto (tgt := 234) hx hb dX12_select_230 rfl ?_
          exact N_select_234 X hP hF ih (lv_sub hl [1, 2, 3] rfl) h
set_option maxRecDepth 20000 in
set_option maxHeartbeats 4000000 in
theorem N_select_76 {p : Program} {l : Launch} {e : Env} {s : State} {m : MethodId} {args : Array Value} {below : List Frame} {meth : Method} {c : Code} {D : mD} {mb : Nat}  {n : Nat} {x1 : Int32} {x2 : Int32} {σ : mS} {H : Heap} {locs : List Loc} {ls : Array Slot} {q : Int32 × mS} (X : mX p s m args meth c cX12_select 4 (some .int) D) (hP : mP D mb σ H) (hF : mF mb s.heap H locs)  (hl : lv_has ls 4 [(0, .ref mb), (1, .int x1), (2, .int x2)]) (h : f_select_76  n x1 x2 σ = some q) : mWw p l e 2 54 s m args below meth c D mb q.2 (some (.int q.1)) H locs (F0 m 76 ls []) := by
  have hx := X.1
  have hb := X.2.1
  have hown := X.2.2.2.1
  have hts := X.2.2.2.2.1
  induction n generalizing x1 x2 σ H locs ls with
  | zero => exact absurd (show none = some q from h) (by simp)
  | succ n ih =>
    have h : (if (4:Int32) ≤ x2 then (f_select_127 4000 (x1) ((0:Int32)) σ) else ((rd σ 15 ((120:Int32) + x2)).bind (fun v1 => (wr σ 15 (((4:Int32) * x1) + x2) v1).bind (fun s2 => (rd s2 16 ((120:Int32) + x2)).bind (fun v3 => (wr s2 16 (((4:Int32) * x1) + x2) v3).bind (fun s4 => f_select_76 n (x1) ((x2 + (1:Int32))) s4)))))) = some q := h
    refine lv_iload_n hx hb dX12_select_76 rfl (lv_at hl 2 rfl) ?_
    refine lv_iconst (v := (4:Int32)) hx hb dX12_select_77 (by decide) ?_
    refine lv_icmp_ge (tgt := 125) hx hb dX12_select_78 rfl (fun hc => ?_) (fun hc => ?_)
    · have h := ip hc h
      refine lv_iconst (v := (0:Int32)) hx hb dX12_select_125 (by decide) ?_
      refine lv_istore_n hx hb dX12_select_126 rfl hl (Nat.le_of_ble_eq_true rfl) rfl (fun ls (hl : lv_has ls 4 [(2, .int (0:Int32)), (0, .ref mb), (1, .int x1)]) => ?_)
      exact N_select_127 X hP hF (lv_sub hl [1, 2, 0] rfl) h
    · have h := ine hc h
      refine lv_aload_n hx hb dX12_select_81 rfl (lv_at hl 0 rfl) ?_
      refine mg_cb X hP dX12_select_82 ?_
      refine lv_iconst (v := (4:Int32)) hx hb dX12_select_85 (by decide) ?_
      refine lv_iload_n hx hb dX12_select_86 rfl (lv_at hl 1 rfl) ?_
      refine lv_imul hx hb dX12_select_87 ?_
      refine lv_iload_n hx hb dX12_select_88 rfl (lv_at hl 2 rfl) ?_
      refine lv_iadd hx hb dX12_select_89 ?_
      refine lv_aload_n hx hb dX12_select_90 rfl (lv_at hl 0 rfl) ?_
      refine mg_cb X hP dX12_select_91 ?_
      refine lv_bipush (v := (120:Int32)) hx hb dX12_select_94 (by decide) ?_
      refine lv_iload_n hx hb dX12_select_96 rfl (lv_at hl 2 rfl) ?_
      refine lv_iadd hx hb dX12_select_97 ?_
      obtain ⟨v1, hv1, h⟩ := ob h
      refine m_ald X hP hv1 dX12_select_98 ?_
      obtain ⟨s2, hs2, h⟩ := ob h
      refine m_ast X hP hF hs2 dX12_select_99 (fun H locs hP hF => ?_)
      refine lv_aload_n hx hb dX12_select_100 rfl (lv_at hl 0 rfl) ?_
      refine mg_nt X hP dX12_select_101 ?_
      refine lv_iconst (v := (4:Int32)) hx hb dX12_select_104 (by decide) ?_
      refine lv_iload_n hx hb dX12_select_105 rfl (lv_at hl 1 rfl) ?_
      refine lv_imul hx hb dX12_select_106 ?_
      refine lv_iload_n hx hb dX12_select_107 rfl (lv_at hl 2 rfl) ?_
      refine lv_iadd hx hb dX12_select_108 ?_
      refine lv_aload_n hx hb dX12_select_109 rfl (lv_at hl 0 rfl) ?_
      refine mg_nt X hP dX12_select_110 ?_
      refine lv_bipush (v := (120:Int32)) hx hb dX12_select_113 (by decide) ?_
      refine lv_iload_n hx hb dX12_select_115 rfl (lv_at hl 2 rfl) ?_
      refine lv_iadd hx hb dX12_select_116 ?_
      obtain ⟨v3, hv3, h⟩ := ob h
      refine m_ald X hP hv3 dX12_select_117 ?_
      obtain ⟨s4, hs4, h⟩ := ob h
      refine m_ast X hP hF hs4 dX12_select_118 (fun H locs hP hF => ?_)
      refine lv_iinc (v := (x2 + (1:Int32))) hx hb dX12_select_119 hl (k := 2) rfl rfl (Nat.le_of_ble_eq_true rfl) rfl (fun ls (hl : lv_has ls 4 [(2, .int (x2 + (1:Int32))), (0, .ref mb), (1, .int x1)]) => ?_)
      refine lv_goto (tgt := 76) hx hb dX12_select_122 rfl ?_
      exact ih hP hF (lv_sub hl [1, 2, 0] rfl) h
set_option maxRecDepth 20000 in
set_option maxHeartbeats 4000000 in
theorem N_select_15 {p : Program} {l : Launch} {e : Env} {s : State} {m : MethodId} {args : Array Value} {below : List Frame} {meth : Method} {c : Code} {D : mD} {mb : Nat}   {y1 : Int32} {σ : mS} {H : Heap} {locs : List Loc} {ls : Array Slot} {q : Int32 × mS} (X : mX p s m args meth c cX12_select 4 (some .int) D) (hP : mP D mb σ H) (hF : mF mb s.heap H locs)  (hl : lv_has ls 4 [(0, .ref mb)]) (h : f_select_15  y1 σ = some q) : mWw p l e 2 54 s m args below meth c D mb q.2 (some (.int q.1)) H locs (F0 m 15 ls [.int y1, .ref mb]) := by
  have hx := X.1
  have hb := X.2.1
  have hown := X.2.2.2.1
  have hts := X.2.2.2.2.1
  have h : ((f_holds (y1) σ).bind (fun v1 => if v1.1 = (0:Int32) then ((rd v1.2 14 (30:Int32)).bind (fun v2 => (wr v1.2 14 (v1.2.2 26) v2).bind (fun s3 => (rd s3 21 (30:Int32)).bind (fun v4 => (wr s3 21 (v1.2.2 26) v4).bind (fun s5 => (rd s5 22 (30:Int32)).bind (fun v6 => (wr s5 22 (v1.2.2 26) v6).bind (fun s7 => (wr s7 20 (v1.2.2 26) (0:Int32)).bind (fun s8 => f_select_76 4000 ((v1.2.2 26)) ((0:Int32)) s8)))))))) else (some (((-1):Int32), v1.2)))) = some q := h
  obtain ⟨v1, hv1, h⟩ := ob h
  refine cl_holds X hP hF hv1 ⟨Nat.le_of_ble_eq_true rfl, Nat.le_of_ble_eq_true rfl⟩ hl.1 (Nat.le_of_ble_eq_true rfl) dX12_select_15 (fun H locs hP hF => ?_)
  refine lv_if_eq (tgt := 23) hx hb dX12_select_18 rfl (fun hc => ?_) (fun hc => ?_)
  · have h := ip hc h
    refine lv_aload_n hx hb dX12_select_23 rfl (lv_at hl 0 rfl) ?_
    refine mg_sels X hP dX12_select_24 ?_
    refine lv_istore_n hx hb dX12_select_27 rfl hl (Nat.le_of_ble_eq_true rfl) rfl (fun ls (hl : lv_has ls 4 [(1, .int (v1.2.2 26)), (0, .ref mb)]) => ?_)
    refine lv_aload_n hx hb dX12_select_28 rfl (lv_at hl 1 rfl) ?_
    refine mg_nc X hP dX12_select_29 ?_
    refine lv_iload_n hx hb dX12_select_32 rfl (lv_at hl 0 rfl) ?_
    refine lv_aload_n hx hb dX12_select_33 rfl (lv_at hl 1 rfl) ?_
    refine mg_nc X hP dX12_select_34 ?_
    refine lv_bipush (v := (30:Int32)) hx hb dX12_select_37 (by decide) ?_
    obtain ⟨v2, hv2, h⟩ := ob h
    refine m_ald X hP hv2 dX12_select_39 ?_
    obtain ⟨s3, hs3, h⟩ := ob h
    refine m_ast X hP hF hs3 dX12_select_40 (fun H locs hP hF => ?_)
    refine lv_aload_n hx hb dX12_select_41 rfl (lv_at hl 1 rfl) ?_
    refine mg_hp X hP dX12_select_42 ?_
    refine lv_iload_n hx hb dX12_select_45 rfl (lv_at hl 0 rfl) ?_
    refine lv_aload_n hx hb dX12_select_46 rfl (lv_at hl 1 rfl) ?_
    refine mg_hp X hP dX12_select_47 ?_
    refine lv_bipush (v := (30:Int32)) hx hb dX12_select_50 (by decide) ?_
    obtain ⟨v4, hv4, h⟩ := ob h
    refine m_ald X hP hv4 dX12_select_52 ?_
    obtain ⟨s5, hs5, h⟩ := ob h
    refine m_ast X hP hF hs5 dX12_select_53 (fun H locs hP hF => ?_)
    refine lv_aload_n hx hb dX12_select_54 rfl (lv_at hl 1 rfl) ?_
    refine mg_hh X hP dX12_select_55 ?_
    refine lv_iload_n hx hb dX12_select_58 rfl (lv_at hl 0 rfl) ?_
    refine lv_aload_n hx hb dX12_select_59 rfl (lv_at hl 1 rfl) ?_
    refine mg_hh X hP dX12_select_60 ?_
    refine lv_bipush (v := (30:Int32)) hx hb dX12_select_63 (by decide) ?_
    obtain ⟨v6, hv6, h⟩ := ob h
    refine m_ald X hP hv6 dX12_select_65 ?_
    obtain ⟨s7, hs7, h⟩ := ob h
    refine m_ast X hP hF hs7 dX12_select_66 (fun H locs hP hF => ?_)
    refine lv_aload_n hx hb dX12_select_67 rfl (lv_at hl 1 rfl) ?_
    refine mg_wt X hP dX12_select_68 ?_
    refine lv_iload_n hx hb dX12_select_71 rfl (lv_at hl 0 rfl) ?_
    refine lv_iconst (v := (0:Int32)) hx hb dX12_select_72 (by decide) ?_
    obtain ⟨s8, hs8, h⟩ := ob h
    refine m_ast X hP hF hs8 dX12_select_73 (fun H locs hP hF => ?_)
    refine lv_iconst (v := (0:Int32)) hx hb dX12_select_74 (by decide) ?_
    refine lv_istore_n hx hb dX12_select_75 rfl hl (Nat.le_of_ble_eq_true rfl) rfl (fun ls (hl : lv_has ls 4 [(2, .int (0:Int32)), (1, .int (v1.2.2 26)), (0, .ref mb)]) => ?_)
    exact N_select_76 X hP hF (lv_sub hl [2, 1, 0] rfl) h
  · have h := ine hc h
    refine lv_iconst (v := ((-1):Int32)) hx hb dX12_select_21 (by decide) ?_
    obtain rfl := sj h
    exact m_wi X hP hF dX12_select_22
set_option maxRecDepth 20000 in
set_option maxHeartbeats 4000000 in
theorem K_select (l : Launch) (D : mD) (mb : Nat) (σ : mS)  {q : Int32 × mS} (h : f_select  σ = some q) : Met l yX12_select (Cond.code yX12_select cX12_select 4 (some .int) :: BG) (rM 2 54) (mPc D mb σ []) (mQw D mb q.2 (some (.int q.1))) 0 0 (mReg mb) := by
  refine Met.ofW (cc := cX12_select) (maxL := 4) (ret := (some .int)) (by decide) rfl ?_
  intro p e s m args below meth c s₁ B hml hv
  obtain ⟨rfl, hP, hK⟩ := hv
  have X := mX_of B hml rfl hK
  have hx := X.1
  have hb := X.2.1
  have hown := X.2.2.2.1
  have hts := X.2.2.2.2.1
  have hl := lv_entry (.ref mb :: []) (n := 4) (Nat.le_of_ble_eq_true rfl)
  rw [lg_entry_eq]
  generalize (lg_sl (.ref mb :: []) ++ List.replicate (4 - (lg_sl (.ref mb :: [])).length) Slot.unset).toArray = ls at hl ⊢
  have hl : lv_has ls 4 [(0, .ref mb)] := hl
  have hF : mF mb s.heap s.heap [] := mF.rf
  show mWw p l e 2 54 s m (Value.ref mb :: []).toArray below meth c D mb q.2 (some (.int q.1)) s.heap [] (F0 m 0 ls [])
  have h : (if (σ.2 26) = (30:Int32) then (f_select_15 ((1:Int32)) σ) else (f_select_15 ((0:Int32)) σ)) = some q := h
  refine lv_aload_n hx hb dX12_select_0 rfl (lv_at hl 0 rfl) ?_
  refine lv_aload_n hx hb dX12_select_1 rfl (lv_at hl 0 rfl) ?_
  refine mg_sels X hP dX12_select_2 ?_
  refine lv_bipush (v := (30:Int32)) hx hb dX12_select_5 (by decide) ?_
  refine lv_icmp_ne (tgt := 14) hx hb dX12_select_7 rfl (fun hc => ?_) (fun hc => ?_)
  · have h := ine hc h
    refine lv_iconst (v := (0:Int32)) hx hb dX12_select_14 (by decide) ?_
    exact N_select_15 X hP hF (lv_sub hl [0] rfl) h
  · have h := ip hc h
    refine lv_iconst (v := (1:Int32)) hx hb dX12_select_10 (by decide) ?_
    refine lv_goto (tgt := 15) hx hb dX12_select_11 rfl ?_
    exact N_select_15 X hP hF (lv_sub hl [0] rfl) h
-- isSel(I)Z
def f_isSel (x1 : Int32) (σ : mS) : Option (Int32) := (f_in (x1) ((0:Int32)) (((σ.2 26) - (1:Int32)))).bind (fun v1 => rz v1)
set_option maxRecDepth 20000 in
set_option maxHeartbeats 4000000 in
theorem K_isSel (l : Launch) (D : mD) (mb : Nat) (σ : mS) (x1 : Int32) {r : Int32} (h : f_isSel x1 σ = some r) : Met l yX12_isSel (Cond.code yX12_isSel cX12_isSel 2 (some .boolean) :: BG) (rM 1 23) (mPc D mb σ [.int x1]) (mQr (some (.int r))) 0 0 (fun _ => False) := by
  refine Met.ofW (cc := cX12_isSel) (maxL := 2) (ret := (some .boolean)) (by decide) rfl ?_
  intro p e s m args below meth c s₁ B hml hv
  obtain ⟨rfl, hP, hK⟩ := hv
  have X := mX_of B hml rfl hK
  have hx := X.1
  have hb := X.2.1
  have hown := X.2.2.2.1
  have hts := X.2.2.2.2.1
  have hl := lv_entry (.ref mb :: [.int x1]) (n := 2) (Nat.le_of_ble_eq_true rfl)
  rw [lg_entry_eq]
  generalize (lg_sl (.ref mb :: [.int x1]) ++ List.replicate (2 - (lg_sl (.ref mb :: [.int x1])).length) Slot.unset).toArray = ls at hl ⊢
  have hl : lv_has ls 2 [(0, .ref mb), (1, .int x1)] := hl
  show mWr p l e 1 23 s m (Value.ref mb :: [.int x1]).toArray below meth c (some (.int r)) (F0 m 0 ls [])
  have h : ((f_in (x1) ((0:Int32)) (((σ.2 26) - (1:Int32)))).bind (fun v1 => rz v1)) = some r := h
  refine lv_aload_n hx hb dX12_isSel_0 rfl (lv_at hl 0 rfl) ?_
  refine lv_iload_n hx hb dX12_isSel_1 rfl (lv_at hl 1 rfl) ?_
  refine lv_iconst (v := (0:Int32)) hx hb dX12_isSel_2 (by decide) ?_
  refine lv_aload_n hx hb dX12_isSel_3 rfl (lv_at hl 0 rfl) ?_
  refine mg_sels X hP dX12_isSel_4 ?_
  refine lv_iconst (v := (1:Int32)) hx hb dX12_isSel_7 (by decide) ?_
  refine lv_isub hx hb dX12_isSel_8 ?_
  obtain ⟨v1, hv1, h⟩ := ob h
  refine cl_in X hP hv1 ⟨Nat.le_of_ble_eq_true rfl, Nat.le_of_ble_eq_true rfl⟩ hl.1 (Nat.le_of_ble_eq_true rfl) dX12_isSel_9 ?_
  obtain ⟨hz, rfl⟩ := rz_spec h
  exact m_rz X hz dX12_isSel_12
theorem cl_isSel {p : Program} {l : Launch} {e : Env} {s : State} {m : MethodId} {args : Array Value} {below : List Frame} {meth : Method} {c : Code} {D : mD} {mb : Nat} {H : Heap} {locs : List Loc} {Q : State → Prop} {cc : ByteArray} {pc fR lR nL : Nat} {ls : Array Slot} {rest : List Value} {ret : Option FieldType} {σ : mS} (X : mX p s m args meth c cc nL ret D) (hP : mP D mb σ H) {x1 : Int32} {r : Int32} (h : f_isSel x1 σ = some r) (hr : 1 + 1 ≤ fR ∧ 8 + (2 + 11) + 23 ≤ lR) (hl : ls.size = nL) (hW : (rest.map fun v => v.category).sum ≤ 8) (hdg : decode cc pc = .ok (.invokevirtual 534, 3)) (kk : W p l e (rM fR lR) s m args below meth c H locs 0 0 Q (F0 m (pc + 3) ls (.int r :: rest))) : W p l e (rM fR lR) s m args below meth c H locs 0 0 Q (F0 m pc ls (.int x1 :: .ref mb :: rest)) := m_cr (m_run (n := 1) X (K_isSel l D mb σ x1 h) ⟨w_2015, w_2017, w_85, w_2018⟩ (hyX rfl (by decide +kernel)) rfl hr hP hl hW hdg rfl) kk
-- weight(I)I
def f_weight_30  (y0 : Int32) (σ : mS) : Option (Int32 × mS) := some (y0, σ)
def f_weight_14  (x1 : Int32) (y1 : Int32) (σ : mS) : Option (Int32 × mS) := (f_holds (y1) σ).bind (fun v1 => if v1.1 = (0:Int32) then ((rd v1.2 20 x1).bind (fun v2 => f_weight_30 (v2) v1.2)) else (f_weight_30 (((-1):Int32)) v1.2))
def f_weight (x1 : Int32) (σ : mS) : Option (Int32 × mS) := (f_isSel (x1) σ).bind (fun v1 => if v1 = (0:Int32) then (f_weight_14 (x1) ((1:Int32)) σ) else (f_weight_14 (x1) ((0:Int32)) σ))
set_option maxRecDepth 20000 in
set_option maxHeartbeats 4000000 in
theorem N_weight_30 {p : Program} {l : Launch} {e : Env} {s : State} {m : MethodId} {args : Array Value} {below : List Frame} {meth : Method} {c : Code} {D : mD} {mb : Nat}   {y0 : Int32} {σ : mS} {H : Heap} {locs : List Loc} {ls : Array Slot} {q : Int32 × mS} (X : mX p s m args meth c cX12_weight 2 (some .int) D) (hP : mP D mb σ H) (hF : mF mb s.heap H locs)  (hl : lv_has ls 2 [(0, .ref mb)]) (h : f_weight_30  y0 σ = some q) : mWw p l e 2 44 s m args below meth c D mb q.2 (some (.int q.1)) H locs (F0 m 30 ls [.int y0]) := by
  have hx := X.1
  have hb := X.2.1
  have hown := X.2.2.2.1
  have hts := X.2.2.2.2.1
  have h : (some (y0, σ)) = some q := h
  obtain rfl := sj h
  exact m_wi X hP hF dX12_weight_30
set_option maxRecDepth 20000 in
set_option maxHeartbeats 4000000 in
theorem N_weight_14 {p : Program} {l : Launch} {e : Env} {s : State} {m : MethodId} {args : Array Value} {below : List Frame} {meth : Method} {c : Code} {D : mD} {mb : Nat}   {x1 : Int32} {y1 : Int32} {σ : mS} {H : Heap} {locs : List Loc} {ls : Array Slot} {q : Int32 × mS} (X : mX p s m args meth c cX12_weight 2 (some .int) D) (hP : mP D mb σ H) (hF : mF mb s.heap H locs)  (hl : lv_has ls 2 [(0, .ref mb), (1, .int x1)]) (h : f_weight_14  x1 y1 σ = some q) : mWw p l e 2 44 s m args below meth c D mb q.2 (some (.int q.1)) H locs (F0 m 14 ls [.int y1, .ref mb]) := by
  have hx := X.1
  have hb := X.2.1
  have hown := X.2.2.2.1
  have hts := X.2.2.2.2.1
  have h : ((f_holds (y1) σ).bind (fun v1 => if v1.1 = (0:Int32) then ((rd v1.2 20 x1).bind (fun v2 => f_weight_30 (v2) v1.2)) else (f_weight_30 (((-1):Int32)) v1.2))) = some q := h
  obtain ⟨v1, hv1, h⟩ := ob h
  refine cl_holds X hP hF hv1 ⟨Nat.le_of_ble_eq_true rfl, Nat.le_of_ble_eq_true rfl⟩ hl.1 (Nat.le_of_ble_eq_true rfl) dX12_weight_14 (fun H locs hP hF => ?_)
  refine lv_if_eq (tgt := 24) hx hb dX12_weight_17 rfl (fun hc => ?_) (fun hc => ?_)
  · have h := ip hc h
    refine lv_aload_n hx hb dX12_weight_24 rfl (lv_at hl 0 rfl) ?_
    refine mg_wt X hP dX12_weight_25 ?_
    refine lv_iload_n hx hb dX12_weight_28 rfl (lv_at hl 1 rfl) ?_
    obtain ⟨v2, hv2, h⟩ := ob h
    refine m_ald X hP hv2 dX12_weight_29 ?_
    exact N_weight_30 X hP hF (lv_sub hl [0] rfl) h
  · have h := ine hc h
    refine lv_iconst (v := ((-1):Int32)) hx hb dX12_weight_20 (by decide) ?_
    refine lv_goto (tgt := 30) hx hb dX12_weight_21 rfl ?_
    exact N_weight_30 X hP hF (lv_sub hl [0] rfl) h
set_option maxRecDepth 20000 in
set_option maxHeartbeats 4000000 in
theorem K_weight (l : Launch) (D : mD) (mb : Nat) (σ : mS) (x1 : Int32) {q : Int32 × mS} (h : f_weight x1 σ = some q) : Met l yX12_weight (Cond.code yX12_weight cX12_weight 2 (some .int) :: BG) (rM 2 44) (mPc D mb σ [.int x1]) (mQw D mb q.2 (some (.int q.1))) 0 0 (mReg mb) := by
  refine Met.ofW (cc := cX12_weight) (maxL := 2) (ret := (some .int)) (by decide) rfl ?_
  intro p e s m args below meth c s₁ B hml hv
  obtain ⟨rfl, hP, hK⟩ := hv
  have X := mX_of B hml rfl hK
  have hx := X.1
  have hb := X.2.1
  have hown := X.2.2.2.1
  have hts := X.2.2.2.2.1
  have hl := lv_entry (.ref mb :: [.int x1]) (n := 2) (Nat.le_of_ble_eq_true rfl)
  rw [lg_entry_eq]
  generalize (lg_sl (.ref mb :: [.int x1]) ++ List.replicate (2 - (lg_sl (.ref mb :: [.int x1])).length) Slot.unset).toArray = ls at hl ⊢
  have hl : lv_has ls 2 [(0, .ref mb), (1, .int x1)] := hl
  have hF : mF mb s.heap s.heap [] := mF.rf
  show mWw p l e 2 44 s m (Value.ref mb :: [.int x1]).toArray below meth c D mb q.2 (some (.int q.1)) s.heap [] (F0 m 0 ls [])
  have h : ((f_isSel (x1) σ).bind (fun v1 => if v1 = (0:Int32) then (f_weight_14 (x1) ((1:Int32)) σ) else (f_weight_14 (x1) ((0:Int32)) σ))) = some q := h
  refine lv_aload_n hx hb dX12_weight_0 rfl (lv_at hl 0 rfl) ?_
  refine lv_aload_n hx hb dX12_weight_1 rfl (lv_at hl 0 rfl) ?_
  refine lv_iload_n hx hb dX12_weight_2 rfl (lv_at hl 1 rfl) ?_
  obtain ⟨v1, hv1, h⟩ := ob h
  refine cl_isSel X hP hv1 ⟨Nat.le_of_ble_eq_true rfl, Nat.le_of_ble_eq_true rfl⟩ hl.1 (Nat.le_of_ble_eq_true rfl) dX12_weight_3 ?_
  refine lv_if_eq (tgt := 13) hx hb dX12_weight_6 rfl (fun hc => ?_) (fun hc => ?_)
  · have h := ip hc h
    refine lv_iconst (v := (1:Int32)) hx hb dX12_weight_13 (by decide) ?_
    exact N_weight_14 X hP hF (lv_sub hl [0, 1] rfl) h
  · have h := ine hc h
    refine lv_iconst (v := (0:Int32)) hx hb dX12_weight_9 (by decide) ?_
    refine lv_goto (tgt := 14) hx hb dX12_weight_10 rfl ?_
    exact N_weight_14 X hP hF (lv_sub hl [0, 1] rfl) h
-- matches(III)Z
def f_matches_30  (x1 : Int32) (x2 : Int32) (x3 : Int32) (y1 : Int32) (σ : mS) : Option (Int32 × mS) := (f_holds (y1) σ).bind (fun v1 => if v1.1 = (0:Int32) then ((f_look (x3) v1.2).bind (fun v2 => (rd v2 73 x2).bind (fun v3 => (f_bit (v3) (x1)).bind (fun v4 => rzw v4 v2)))) else (rzw (0:Int32) v1.2))
def f_matches_29  (x1 : Int32) (x2 : Int32) (x3 : Int32) (σ : mS) : Option (Int32 × mS) := f_matches_30 (x1) (x2) (x3) ((1:Int32)) σ
def f_matches (x1 : Int32) (x2 : Int32) (x3 : Int32) (σ : mS) : Option (Int32 × mS) := (f_isElement (x1) σ).bind (fun v1 => if v1 = (0:Int32) then (f_matches_29 (x1) (x2) (x3) σ) else ((f_isSel (x2) σ).bind (fun v2 => if v2 = (0:Int32) then (f_matches_29 (x1) (x2) (x3) σ) else ((f_isTree (x3) σ).bind (fun v3 => if v3 = (0:Int32) then (f_matches_29 (x1) (x2) (x3) σ) else (f_matches_30 (x1) (x2) (x3) ((0:Int32)) σ))))))
set_option maxRecDepth 20000 in
set_option maxHeartbeats 4000000 in
theorem N_matches_30 {p : Program} {l : Launch} {e : Env} {s : State} {m : MethodId} {args : Array Value} {below : List Frame} {meth : Method} {c : Code} {D : mD} {mb : Nat}   {x1 : Int32} {x2 : Int32} {x3 : Int32} {y1 : Int32} {σ : mS} {H : Heap} {locs : List Loc} {ls : Array Slot} {q : Int32 × mS} (X : mX p s m args meth c cX12_matches 4 (some .boolean) D) (hP : mP D mb σ H) (hF : mF mb s.heap H locs)  (hl : lv_has ls 4 [(0, .ref mb), (1, .int x1), (2, .int x2), (3, .int x3)]) (h : f_matches_30  x1 x2 x3 y1 σ = some q) : mWw p l e 7 169 s m args below meth c D mb q.2 (some (.int q.1)) H locs (F0 m 30 ls [.int y1, .ref mb]) := by
  have hx := X.1
  have hb := X.2.1
  have hown := X.2.2.2.1
  have hts := X.2.2.2.2.1
  have h : ((f_holds (y1) σ).bind (fun v1 => if v1.1 = (0:Int32) then ((f_look (x3) v1.2).bind (fun v2 => (rd v2 73 x2).bind (fun v3 => (f_bit (v3) (x1)).bind (fun v4 => rzw v4 v2)))) else (rzw (0:Int32) v1.2))) = some q := h
  obtain ⟨v1, hv1, h⟩ := ob h
  refine cl_holds X hP hF hv1 ⟨Nat.le_of_ble_eq_true rfl, Nat.le_of_ble_eq_true rfl⟩ hl.1 (Nat.le_of_ble_eq_true rfl) dX12_matches_30 (fun H locs hP hF => ?_)
  refine lv_if_eq (tgt := 38) hx hb dX12_matches_33 rfl (fun hc => ?_) (fun hc => ?_)
  · have h := ip hc h
    refine lv_aload_n hx hb dX12_matches_38 rfl (lv_at hl 0 rfl) ?_
    refine lv_iload_n hx hb dX12_matches_39 rfl (lv_at hl 3 rfl) ?_
    obtain ⟨v2, hv2, h⟩ := ob h
    refine cl_look X hP hF hv2 ⟨Nat.le_of_ble_eq_true rfl, Nat.le_of_ble_eq_true rfl⟩ hl.1 (Nat.le_of_ble_eq_true rfl) dX12_matches_40 (fun H locs hP hF => ?_)
    refine lv_aload_n hx hb dX12_matches_43 rfl (lv_at hl 0 rfl) ?_
    refine lv_aload_n hx hb dX12_matches_44 rfl (lv_at hl 0 rfl) ?_
    refine mg_set X hP dX12_matches_45 ?_
    refine lv_iload_n hx hb dX12_matches_48 rfl (lv_at hl 2 rfl) ?_
    obtain ⟨v3, hv3, h⟩ := ob h
    refine m_ald X hP hv3 dX12_matches_49 ?_
    refine lv_iload_n hx hb dX12_matches_50 rfl (lv_at hl 1 rfl) ?_
    obtain ⟨v4, hv4, h⟩ := ob h
    refine cl_bit X hP hv4 ⟨Nat.le_of_ble_eq_true rfl, Nat.le_of_ble_eq_true rfl⟩ hl.1 (Nat.le_of_ble_eq_true rfl) dX12_matches_51 ?_
    obtain ⟨hz, rfl⟩ := rzw_spec h
    exact m_wz X hz hP hF dX12_matches_54
  · have h := ine hc h
    refine lv_iconst (v := (0:Int32)) hx hb dX12_matches_36 (by decide) ?_
    obtain ⟨hz, rfl⟩ := rzw_spec h
    exact m_wz X hz hP hF dX12_matches_37
set_option maxRecDepth 20000 in
set_option maxHeartbeats 4000000 in
theorem N_matches_29 {p : Program} {l : Launch} {e : Env} {s : State} {m : MethodId} {args : Array Value} {below : List Frame} {meth : Method} {c : Code} {D : mD} {mb : Nat}   {x1 : Int32} {x2 : Int32} {x3 : Int32} {σ : mS} {H : Heap} {locs : List Loc} {ls : Array Slot} {q : Int32 × mS} (X : mX p s m args meth c cX12_matches 4 (some .boolean) D) (hP : mP D mb σ H) (hF : mF mb s.heap H locs)  (hl : lv_has ls 4 [(0, .ref mb), (1, .int x1), (2, .int x2), (3, .int x3)]) (h : f_matches_29  x1 x2 x3 σ = some q) : mWw p l e 7 169 s m args below meth c D mb q.2 (some (.int q.1)) H locs (F0 m 29 ls [.ref mb]) := by
  have hx := X.1
  have hb := X.2.1
  have hown := X.2.2.2.1
  have hts := X.2.2.2.2.1
  have h : (f_matches_30 (x1) (x2) (x3) ((1:Int32)) σ) = some q := h
  refine lv_iconst (v := (1:Int32)) hx hb dX12_matches_29 (by decide) ?_
  exact N_matches_30 X hP hF (lv_sub hl [0, 1, 2, 3] rfl) h
set_option maxRecDepth 20000 in
set_option maxHeartbeats 4000000 in
theorem K_matches (l : Launch) (D : mD) (mb : Nat) (σ : mS) (x1 : Int32) (x2 : Int32) (x3 : Int32) {q : Int32 × mS} (h : f_matches x1 x2 x3 σ = some q) : Met l yX12_matches (Cond.code yX12_matches cX12_matches 4 (some .boolean) :: BG) (rM 7 169) (mPc D mb σ [.int x1, .int x2, .int x3]) (mQw D mb q.2 (some (.int q.1))) 0 0 (mReg mb) := by
  refine Met.ofW (cc := cX12_matches) (maxL := 4) (ret := (some .boolean)) (by decide) rfl ?_
  intro p e s m args below meth c s₁ B hml hv
  obtain ⟨rfl, hP, hK⟩ := hv
  have X := mX_of B hml rfl hK
  have hx := X.1
  have hb := X.2.1
  have hown := X.2.2.2.1
  have hts := X.2.2.2.2.1
  have hl := lv_entry (.ref mb :: [.int x1, .int x2, .int x3]) (n := 4) (Nat.le_of_ble_eq_true rfl)
  rw [lg_entry_eq]
  generalize (lg_sl (.ref mb :: [.int x1, .int x2, .int x3]) ++ List.replicate (4 - (lg_sl (.ref mb :: [.int x1, .int x2, .int x3])).length) Slot.unset).toArray = ls at hl ⊢
  have hl : lv_has ls 4 [(0, .ref mb), (1, .int x1), (2, .int x2), (3, .int x3)] := hl
  have hF : mF mb s.heap s.heap [] := mF.rf
  show mWw p l e 7 169 s m (Value.ref mb :: [.int x1, .int x2, .int x3]).toArray below meth c D mb q.2 (some (.int q.1)) s.heap [] (F0 m 0 ls [])
  have h : ((f_isElement (x1) σ).bind (fun v1 => if v1 = (0:Int32) then (f_matches_29 (x1) (x2) (x3) σ) else ((f_isSel (x2) σ).bind (fun v2 => if v2 = (0:Int32) then (f_matches_29 (x1) (x2) (x3) σ) else ((f_isTree (x3) σ).bind (fun v3 => if v3 = (0:Int32) then (f_matches_29 (x1) (x2) (x3) σ) else (f_matches_30 (x1) (x2) (x3) ((0:Int32)) σ))))))) = some q := h
  refine lv_aload_n hx hb dX12_matches_0 rfl (lv_at hl 0 rfl) ?_
  refine lv_aload_n hx hb dX12_matches_1 rfl (lv_at hl 0 rfl) ?_
  refine lv_iload_n hx hb dX12_matches_2 rfl (lv_at hl 1 rfl) ?_
  obtain ⟨v1, hv1, h⟩ := ob h
  refine cl_isElement X hP hv1 ⟨Nat.le_of_ble_eq_true rfl, Nat.le_of_ble_eq_true rfl⟩ hl.1 (Nat.le_of_ble_eq_true rfl) dX12_matches_3 ?_
  refine lv_if_eq (tgt := 29) hx hb dX12_matches_6 rfl (fun hc => ?_) (fun hc => ?_)
  · have h := ip hc h
    exact N_matches_29 X hP hF (lv_sub hl [0, 1, 2, 3] rfl) h
  · have h := ine hc h
    refine lv_aload_n hx hb dX12_matches_9 rfl (lv_at hl 0 rfl) ?_
    refine lv_iload_n hx hb dX12_matches_10 rfl (lv_at hl 2 rfl) ?_
    obtain ⟨v2, hv2, h⟩ := ob h
    refine cl_isSel X hP hv2 ⟨Nat.le_of_ble_eq_true rfl, Nat.le_of_ble_eq_true rfl⟩ hl.1 (Nat.le_of_ble_eq_true rfl) dX12_matches_11 ?_
    refine lv_if_eq (tgt := 29) hx hb dX12_matches_14 rfl (fun hc => ?_) (fun hc => ?_)
    · have h := ip hc h
      exact N_matches_29 X hP hF (lv_sub hl [0, 1, 2, 3] rfl) h
    · have h := ine hc h
      refine lv_aload_n hx hb dX12_matches_17 rfl (lv_at hl 0 rfl) ?_
      refine lv_iload_n hx hb dX12_matches_18 rfl (lv_at hl 3 rfl) ?_
      obtain ⟨v3, hv3, h⟩ := ob h
      refine cl_isTree X hP hv3 ⟨Nat.le_of_ble_eq_true rfl, Nat.le_of_ble_eq_true rfl⟩ hl.1 (Nat.le_of_ble_eq_true rfl) dX12_matches_19 ?_
      refine lv_if_eq (tgt := 29) hx hb dX12_matches_22 rfl (fun hc => ?_) (fun hc => ?_)
      · have h := ip hc h
        exact N_matches_29 X hP hF (lv_sub hl [0, 1, 2, 3] rfl) h
      · have h := ine hc h
        refine lv_iconst (v := (0:Int32)) hx hb dX12_matches_25 (by decide) ?_
        refine lv_goto (tgt := 30) hx hb dX12_matches_26 rfl ?_
        exact N_matches_30 X hP hF (lv_sub hl [0, 1, 2, 3] rfl) h
-- allThat(II)I
def f_allThat_22  (x1 : Int32) (x2 : Int32) (y1 : Int32) (σ : mS) : Option (Int32 × mS) := (f_holds (y1) σ).bind (fun v1 => if v1.1 = (0:Int32) then ((f_look (x2) v1.2).bind (fun v2 => (rd v2 73 x1).bind (fun v3 => some (v3, v2)))) else (some (((-1):Int32), v1.2)))
def f_allThat_21  (x1 : Int32) (x2 : Int32) (σ : mS) : Option (Int32 × mS) := f_allThat_22 (x1) (x2) ((1:Int32)) σ
def f_allThat (x1 : Int32) (x2 : Int32) (σ : mS) : Option (Int32 × mS) := (f_isSel (x1) σ).bind (fun v1 => if v1 = (0:Int32) then (f_allThat_21 (x1) (x2) σ) else ((f_isTree (x2) σ).bind (fun v2 => if v2 = (0:Int32) then (f_allThat_21 (x1) (x2) σ) else (f_allThat_22 (x1) (x2) ((0:Int32)) σ))))
set_option maxRecDepth 20000 in
set_option maxHeartbeats 4000000 in
theorem N_allThat_22 {p : Program} {l : Launch} {e : Env} {s : State} {m : MethodId} {args : Array Value} {below : List Frame} {meth : Method} {c : Code} {D : mD} {mb : Nat}   {x1 : Int32} {x2 : Int32} {y1 : Int32} {σ : mS} {H : Heap} {locs : List Loc} {ls : Array Slot} {q : Int32 × mS} (X : mX p s m args meth c cX12_allThat 3 (some .int) D) (hP : mP D mb σ H) (hF : mF mb s.heap H locs)  (hl : lv_has ls 3 [(0, .ref mb), (1, .int x1), (2, .int x2)]) (h : f_allThat_22  x1 x2 y1 σ = some q) : mWw p l e 7 169 s m args below meth c D mb q.2 (some (.int q.1)) H locs (F0 m 22 ls [.int y1, .ref mb]) := by
  have hx := X.1
  have hb := X.2.1
  have hown := X.2.2.2.1
  have hts := X.2.2.2.2.1
  have h : ((f_holds (y1) σ).bind (fun v1 => if v1.1 = (0:Int32) then ((f_look (x2) v1.2).bind (fun v2 => (rd v2 73 x1).bind (fun v3 => some (v3, v2)))) else (some (((-1):Int32), v1.2)))) = some q := h
  obtain ⟨v1, hv1, h⟩ := ob h
  refine cl_holds X hP hF hv1 ⟨Nat.le_of_ble_eq_true rfl, Nat.le_of_ble_eq_true rfl⟩ hl.1 (Nat.le_of_ble_eq_true rfl) dX12_allThat_22 (fun H locs hP hF => ?_)
  refine lv_if_eq (tgt := 30) hx hb dX12_allThat_25 rfl (fun hc => ?_) (fun hc => ?_)
  · have h := ip hc h
    refine lv_aload_n hx hb dX12_allThat_30 rfl (lv_at hl 0 rfl) ?_
    refine lv_iload_n hx hb dX12_allThat_31 rfl (lv_at hl 2 rfl) ?_
    obtain ⟨v2, hv2, h⟩ := ob h
    refine cl_look X hP hF hv2 ⟨Nat.le_of_ble_eq_true rfl, Nat.le_of_ble_eq_true rfl⟩ hl.1 (Nat.le_of_ble_eq_true rfl) dX12_allThat_32 (fun H locs hP hF => ?_)
    refine lv_aload_n hx hb dX12_allThat_35 rfl (lv_at hl 0 rfl) ?_
    refine mg_set X hP dX12_allThat_36 ?_
    refine lv_iload_n hx hb dX12_allThat_39 rfl (lv_at hl 1 rfl) ?_
    obtain ⟨v3, hv3, h⟩ := ob h
    refine m_ald X hP hv3 dX12_allThat_40 ?_
    obtain rfl := sj h
    exact m_wi X hP hF dX12_allThat_41
  · have h := ine hc h
    refine lv_iconst (v := ((-1):Int32)) hx hb dX12_allThat_28 (by decide) ?_
    obtain rfl := sj h
    exact m_wi X hP hF dX12_allThat_29
set_option maxRecDepth 20000 in
set_option maxHeartbeats 4000000 in
theorem N_allThat_21 {p : Program} {l : Launch} {e : Env} {s : State} {m : MethodId} {args : Array Value} {below : List Frame} {meth : Method} {c : Code} {D : mD} {mb : Nat}   {x1 : Int32} {x2 : Int32} {σ : mS} {H : Heap} {locs : List Loc} {ls : Array Slot} {q : Int32 × mS} (X : mX p s m args meth c cX12_allThat 3 (some .int) D) (hP : mP D mb σ H) (hF : mF mb s.heap H locs)  (hl : lv_has ls 3 [(0, .ref mb), (1, .int x1), (2, .int x2)]) (h : f_allThat_21  x1 x2 σ = some q) : mWw p l e 7 169 s m args below meth c D mb q.2 (some (.int q.1)) H locs (F0 m 21 ls [.ref mb]) := by
  have hx := X.1
  have hb := X.2.1
  have hown := X.2.2.2.1
  have hts := X.2.2.2.2.1
  have h : (f_allThat_22 (x1) (x2) ((1:Int32)) σ) = some q := h
  refine lv_iconst (v := (1:Int32)) hx hb dX12_allThat_21 (by decide) ?_
  exact N_allThat_22 X hP hF (lv_sub hl [0, 1, 2] rfl) h
set_option maxRecDepth 20000 in
set_option maxHeartbeats 4000000 in
theorem K_allThat (l : Launch) (D : mD) (mb : Nat) (σ : mS) (x1 : Int32) (x2 : Int32) {q : Int32 × mS} (h : f_allThat x1 x2 σ = some q) : Met l yX12_allThat (Cond.code yX12_allThat cX12_allThat 3 (some .int) :: BG) (rM 7 169) (mPc D mb σ [.int x1, .int x2]) (mQw D mb q.2 (some (.int q.1))) 0 0 (mReg mb) := by
  refine Met.ofW (cc := cX12_allThat) (maxL := 3) (ret := (some .int)) (by decide) rfl ?_
  intro p e s m args below meth c s₁ B hml hv
  obtain ⟨rfl, hP, hK⟩ := hv
  have X := mX_of B hml rfl hK
  have hx := X.1
  have hb := X.2.1
  have hown := X.2.2.2.1
  have hts := X.2.2.2.2.1
  have hl := lv_entry (.ref mb :: [.int x1, .int x2]) (n := 3) (Nat.le_of_ble_eq_true rfl)
  rw [lg_entry_eq]
  generalize (lg_sl (.ref mb :: [.int x1, .int x2]) ++ List.replicate (3 - (lg_sl (.ref mb :: [.int x1, .int x2])).length) Slot.unset).toArray = ls at hl ⊢
  have hl : lv_has ls 3 [(0, .ref mb), (1, .int x1), (2, .int x2)] := hl
  have hF : mF mb s.heap s.heap [] := mF.rf
  show mWw p l e 7 169 s m (Value.ref mb :: [.int x1, .int x2]).toArray below meth c D mb q.2 (some (.int q.1)) s.heap [] (F0 m 0 ls [])
  have h : ((f_isSel (x1) σ).bind (fun v1 => if v1 = (0:Int32) then (f_allThat_21 (x1) (x2) σ) else ((f_isTree (x2) σ).bind (fun v2 => if v2 = (0:Int32) then (f_allThat_21 (x1) (x2) σ) else (f_allThat_22 (x1) (x2) ((0:Int32)) σ))))) = some q := h
  refine lv_aload_n hx hb dX12_allThat_0 rfl (lv_at hl 0 rfl) ?_
  refine lv_aload_n hx hb dX12_allThat_1 rfl (lv_at hl 0 rfl) ?_
  refine lv_iload_n hx hb dX12_allThat_2 rfl (lv_at hl 1 rfl) ?_
  obtain ⟨v1, hv1, h⟩ := ob h
  refine cl_isSel X hP hv1 ⟨Nat.le_of_ble_eq_true rfl, Nat.le_of_ble_eq_true rfl⟩ hl.1 (Nat.le_of_ble_eq_true rfl) dX12_allThat_3 ?_
  refine lv_if_eq (tgt := 21) hx hb dX12_allThat_6 rfl (fun hc => ?_) (fun hc => ?_)
  · have h := ip hc h
    exact N_allThat_21 X hP hF (lv_sub hl [0, 1, 2] rfl) h
  · have h := ine hc h
    refine lv_aload_n hx hb dX12_allThat_9 rfl (lv_at hl 0 rfl) ?_
    refine lv_iload_n hx hb dX12_allThat_10 rfl (lv_at hl 2 rfl) ?_
    obtain ⟨v2, hv2, h⟩ := ob h
    refine cl_isTree X hP hv2 ⟨Nat.le_of_ble_eq_true rfl, Nat.le_of_ble_eq_true rfl⟩ hl.1 (Nat.le_of_ble_eq_true rfl) dX12_allThat_11 ?_
    refine lv_if_eq (tgt := 21) hx hb dX12_allThat_14 rfl (fun hc => ?_) (fun hc => ?_)
    · have h := ip hc h
      exact N_allThat_21 X hP hF (lv_sub hl [0, 1, 2] rfl) h
    · have h := ine hc h
      refine lv_iconst (v := (0:Int32)) hx hb dX12_allThat_17 (by decide) ?_
      refine lv_goto (tgt := 22) hx hb dX12_allThat_18 rfl ?_
      exact N_allThat_22 X hP hF (lv_sub hl [0, 1, 2] rfl) h
-- sheet(III)I
def f_sheet_51  (x1 : Int32) (x2 : Int32) (x3 : Int32) (y1 : Int32) (σ : mS) : Option (Int32 × mS) := (f_holds (y1) σ).bind (fun v1 => if v1.1 = (0:Int32) then ((wr v1.2 27 (v1.2.2 31) x1).bind (fun s2 => (wr s2 28 (s2.2 31) x2).bind (fun s3 => (wr s3 29 (s3.2 31) x3).bind (fun s4 => (wr s4 30 (s4.2 31) (1:Int32)).bind (fun s5 => (f_markAll  (sf s5 31 ((s5.2 31) + (1:Int32)))).bind (fun v6 => some (((v6.2 31) - (1:Int32)), v6))))))) else (some (((-1):Int32), v1.2)))
def f_sheet_21  (x1 : Int32) (x2 : Int32) (x3 : Int32) (σ : mS) : Option (Int32 × mS) := f_sheet_51 (x1) (x2) (x3) ((1:Int32)) σ
def f_sheet (x1 : Int32) (x2 : Int32) (x3 : Int32) (σ : mS) : Option (Int32 × mS) := (f_in (x1) ((0:Int32)) ((2:Int32))).bind (fun v1 => if v1 = (0:Int32) then (f_sheet_21 (x1) (x2) (x3) σ) else ((f_in (x3) (((-1):Int32)) ((3:Int32))).bind (fun v2 => if v2 = (0:Int32) then (f_sheet_21 (x1) (x2) (x3) σ) else ((f_isTree (x2) σ).bind (fun v3 => if v3 = (0:Int32) then (f_sheet_51 (x1) (x2) (x3) ((2:Int32)) σ) else (if (σ.2 31) = (8:Int32) then (f_sheet_51 (x1) (x2) (x3) ((3:Int32)) σ) else (f_sheet_51 (x1) (x2) (x3) ((0:Int32)) σ)))))))
set_option maxRecDepth 20000 in
set_option maxHeartbeats 4000000 in
theorem N_sheet_51 {p : Program} {l : Launch} {e : Env} {s : State} {m : MethodId} {args : Array Value} {below : List Frame} {meth : Method} {c : Code} {D : mD} {mb : Nat}   {x1 : Int32} {x2 : Int32} {x3 : Int32} {y1 : Int32} {σ : mS} {H : Heap} {locs : List Loc} {ls : Array Slot} {q : Int32 × mS} (X : mX p s m args meth c cX12_sheet 4 (some .int) D) (hP : mP D mb σ H) (hF : mF mb s.heap H locs)  (hl : lv_has ls 4 [(0, .ref mb), (1, .int x1), (2, .int x2), (3, .int x3)]) (h : f_sheet_51  x1 x2 x3 y1 σ = some q) : mWw p l e 5 108 s m args below meth c D mb q.2 (some (.int q.1)) H locs (F0 m 51 ls [.int y1, .ref mb]) := by
  have hx := X.1
  have hb := X.2.1
  have hown := X.2.2.2.1
  have hts := X.2.2.2.2.1
  have h : ((f_holds (y1) σ).bind (fun v1 => if v1.1 = (0:Int32) then ((wr v1.2 27 (v1.2.2 31) x1).bind (fun s2 => (wr s2 28 (s2.2 31) x2).bind (fun s3 => (wr s3 29 (s3.2 31) x3).bind (fun s4 => (wr s4 30 (s4.2 31) (1:Int32)).bind (fun s5 => (f_markAll  (sf s5 31 ((s5.2 31) + (1:Int32)))).bind (fun v6 => some (((v6.2 31) - (1:Int32)), v6))))))) else (some (((-1):Int32), v1.2)))) = some q := h
  obtain ⟨v1, hv1, h⟩ := ob h
  refine cl_holds X hP hF hv1 ⟨Nat.le_of_ble_eq_true rfl, Nat.le_of_ble_eq_true rfl⟩ hl.1 (Nat.le_of_ble_eq_true rfl) dX12_sheet_51 (fun H locs hP hF => ?_)
  refine lv_if_eq (tgt := 59) hx hb dX12_sheet_54 rfl (fun hc => ?_) (fun hc => ?_)
  · have h := ip hc h
    refine lv_aload_n hx hb dX12_sheet_59 rfl (lv_at hl 0 rfl) ?_
    refine mg_so X hP dX12_sheet_60 ?_
    refine lv_aload_n hx hb dX12_sheet_63 rfl (lv_at hl 0 rfl) ?_
    refine mg_sheets X hP dX12_sheet_64 ?_
    refine lv_iload_n hx hb dX12_sheet_67 rfl (lv_at hl 1 rfl) ?_
    obtain ⟨s2, hs2, h⟩ := ob h
    refine m_ast X hP hF hs2 dX12_sheet_68 (fun H locs hP hF => ?_)
    refine lv_aload_n hx hb dX12_sheet_69 rfl (lv_at hl 0 rfl) ?_
    refine mg_sh X hP dX12_sheet_70 ?_
    refine lv_aload_n hx hb dX12_sheet_73 rfl (lv_at hl 0 rfl) ?_
    refine mg_sheets X hP dX12_sheet_74 ?_
    refine lv_iload_n hx hb dX12_sheet_77 rfl (lv_at hl 2 rfl) ?_
    obtain ⟨s3, hs3, h⟩ := ob h
    refine m_ast X hP hF hs3 dX12_sheet_78 (fun H locs hP hF => ?_)
    refine lv_aload_n hx hb dX12_sheet_79 rfl (lv_at hl 0 rfl) ?_
    refine mg_sl X hP dX12_sheet_80 ?_
    refine lv_aload_n hx hb dX12_sheet_83 rfl (lv_at hl 0 rfl) ?_
    refine mg_sheets X hP dX12_sheet_84 ?_
    refine lv_iload_n hx hb dX12_sheet_87 rfl (lv_at hl 3 rfl) ?_
    obtain ⟨s4, hs4, h⟩ := ob h
    refine m_ast X hP hF hs4 dX12_sheet_88 (fun H locs hP hF => ?_)
    refine lv_aload_n hx hb dX12_sheet_89 rfl (lv_at hl 0 rfl) ?_
    refine mg_son X hP dX12_sheet_90 ?_
    refine lv_aload_n hx hb dX12_sheet_93 rfl (lv_at hl 0 rfl) ?_
    refine mg_sheets X hP dX12_sheet_94 ?_
    refine lv_iconst (v := (1:Int32)) hx hb dX12_sheet_97 (by decide) ?_
    obtain ⟨s5, hs5, h⟩ := ob h
    refine m_ast X hP hF hs5 dX12_sheet_98 (fun H locs hP hF => ?_)
    refine lv_aload_n hx hb dX12_sheet_99 rfl (lv_at hl 0 rfl) ?_
    refine lv_dup hx hb dX12_sheet_100 rfl ?_
    refine mg_sheets X hP dX12_sheet_101 ?_
    refine lv_iconst (v := (1:Int32)) hx hb dX12_sheet_104 (by decide) ?_
    refine lv_iadd hx hb dX12_sheet_105 ?_
    refine mp_sheets X hP hF dX12_sheet_106 (fun H locs hP hF => ?_)
    refine lv_aload_n hx hb dX12_sheet_109 rfl (lv_at hl 0 rfl) ?_
    obtain ⟨v6, hv6, h⟩ := ob h
    refine cl_markAll X hP hF hv6 ⟨Nat.le_of_ble_eq_true rfl, Nat.le_of_ble_eq_true rfl⟩ hl.1 (Nat.le_of_ble_eq_true rfl) dX12_sheet_110 (fun H locs hP hF => ?_)
    refine lv_aload_n hx hb dX12_sheet_113 rfl (lv_at hl 0 rfl) ?_
    refine mg_sheets X hP dX12_sheet_114 ?_
    refine lv_iconst (v := (1:Int32)) hx hb dX12_sheet_117 (by decide) ?_
    refine lv_isub hx hb dX12_sheet_118 ?_
    obtain rfl := sj h
    exact m_wi X hP hF dX12_sheet_119
  · have h := ine hc h
    refine lv_iconst (v := ((-1):Int32)) hx hb dX12_sheet_57 (by decide) ?_
    obtain rfl := sj h
    exact m_wi X hP hF dX12_sheet_58
set_option maxRecDepth 20000 in
set_option maxHeartbeats 4000000 in
theorem N_sheet_21 {p : Program} {l : Launch} {e : Env} {s : State} {m : MethodId} {args : Array Value} {below : List Frame} {meth : Method} {c : Code} {D : mD} {mb : Nat}   {x1 : Int32} {x2 : Int32} {x3 : Int32} {σ : mS} {H : Heap} {locs : List Loc} {ls : Array Slot} {q : Int32 × mS} (X : mX p s m args meth c cX12_sheet 4 (some .int) D) (hP : mP D mb σ H) (hF : mF mb s.heap H locs)  (hl : lv_has ls 4 [(0, .ref mb), (1, .int x1), (2, .int x2), (3, .int x3)]) (h : f_sheet_21  x1 x2 x3 σ = some q) : mWw p l e 5 108 s m args below meth c D mb q.2 (some (.int q.1)) H locs (F0 m 21 ls [.ref mb]) := by
  have hx := X.1
  have hb := X.2.1
  have hown := X.2.2.2.1
  have hts := X.2.2.2.2.1
  have h : (f_sheet_51 (x1) (x2) (x3) ((1:Int32)) σ) = some q := h
  refine lv_iconst (v := (1:Int32)) hx hb dX12_sheet_21 (by decide) ?_
  refine lv_goto (tgt := 51) hx hb dX12_sheet_22 rfl ?_
  exact N_sheet_51 X hP hF (lv_sub hl [0, 1, 2, 3] rfl) h
set_option maxRecDepth 20000 in
set_option maxHeartbeats 4000000 in
theorem K_sheet (l : Launch) (D : mD) (mb : Nat) (σ : mS) (x1 : Int32) (x2 : Int32) (x3 : Int32) {q : Int32 × mS} (h : f_sheet x1 x2 x3 σ = some q) : Met l yX12_sheet (Cond.code yX12_sheet cX12_sheet 4 (some .int) :: BG) (rM 5 108) (mPc D mb σ [.int x1, .int x2, .int x3]) (mQw D mb q.2 (some (.int q.1))) 0 0 (mReg mb) := by
  refine Met.ofW (cc := cX12_sheet) (maxL := 4) (ret := (some .int)) (by decide) rfl ?_
  intro p e s m args below meth c s₁ B hml hv
  obtain ⟨rfl, hP, hK⟩ := hv
  have X := mX_of B hml rfl hK
  have hx := X.1
  have hb := X.2.1
  have hown := X.2.2.2.1
  have hts := X.2.2.2.2.1
  have hl := lv_entry (.ref mb :: [.int x1, .int x2, .int x3]) (n := 4) (Nat.le_of_ble_eq_true rfl)
  rw [lg_entry_eq]
  generalize (lg_sl (.ref mb :: [.int x1, .int x2, .int x3]) ++ List.replicate (4 - (lg_sl (.ref mb :: [.int x1, .int x2, .int x3])).length) Slot.unset).toArray = ls at hl ⊢
  have hl : lv_has ls 4 [(0, .ref mb), (1, .int x1), (2, .int x2), (3, .int x3)] := hl
  have hF : mF mb s.heap s.heap [] := mF.rf
  show mWw p l e 5 108 s m (Value.ref mb :: [.int x1, .int x2, .int x3]).toArray below meth c D mb q.2 (some (.int q.1)) s.heap [] (F0 m 0 ls [])
  have h : ((f_in (x1) ((0:Int32)) ((2:Int32))).bind (fun v1 => if v1 = (0:Int32) then (f_sheet_21 (x1) (x2) (x3) σ) else ((f_in (x3) (((-1):Int32)) ((3:Int32))).bind (fun v2 => if v2 = (0:Int32) then (f_sheet_21 (x1) (x2) (x3) σ) else ((f_isTree (x2) σ).bind (fun v3 => if v3 = (0:Int32) then (f_sheet_51 (x1) (x2) (x3) ((2:Int32)) σ) else (if (σ.2 31) = (8:Int32) then (f_sheet_51 (x1) (x2) (x3) ((3:Int32)) σ) else (f_sheet_51 (x1) (x2) (x3) ((0:Int32)) σ)))))))) = some q := h
  refine lv_aload_n hx hb dX12_sheet_0 rfl (lv_at hl 0 rfl) ?_
  refine lv_aload_n hx hb dX12_sheet_1 rfl (lv_at hl 0 rfl) ?_
  refine lv_iload_n hx hb dX12_sheet_2 rfl (lv_at hl 1 rfl) ?_
  refine lv_iconst (v := (0:Int32)) hx hb dX12_sheet_3 (by decide) ?_
  refine lv_iconst (v := (2:Int32)) hx hb dX12_sheet_4 (by decide) ?_
  obtain ⟨v1, hv1, h⟩ := ob h
  refine cl_in X hP hv1 ⟨Nat.le_of_ble_eq_true rfl, Nat.le_of_ble_eq_true rfl⟩ hl.1 (Nat.le_of_ble_eq_true rfl) dX12_sheet_5 ?_
  refine lv_if_eq (tgt := 21) hx hb dX12_sheet_8 rfl (fun hc => ?_) (fun hc => ?_)
  · have h := ip hc h
    exact N_sheet_21 X hP hF (lv_sub hl [0, 1, 2, 3] rfl) h
  · have h := ine hc h
    refine lv_aload_n hx hb dX12_sheet_11 rfl (lv_at hl 0 rfl) ?_
    refine lv_iload_n hx hb dX12_sheet_12 rfl (lv_at hl 3 rfl) ?_
    refine lv_iconst (v := ((-1):Int32)) hx hb dX12_sheet_13 (by decide) ?_
    refine lv_iconst (v := (3:Int32)) hx hb dX12_sheet_14 (by decide) ?_
    obtain ⟨v2, hv2, h⟩ := ob h
    refine cl_in X hP hv2 ⟨Nat.le_of_ble_eq_true rfl, Nat.le_of_ble_eq_true rfl⟩ hl.1 (Nat.le_of_ble_eq_true rfl) dX12_sheet_15 ?_
    refine lv_if_ne (tgt := 25) hx hb dX12_sheet_18 rfl (fun hc => ?_) (fun hc => ?_)
    · have h := ine hc h
      refine lv_aload_n hx hb dX12_sheet_25 rfl (lv_at hl 0 rfl) ?_
      refine lv_iload_n hx hb dX12_sheet_26 rfl (lv_at hl 2 rfl) ?_
      obtain ⟨v3, hv3, h⟩ := ob h
      refine cl_isTree X hP hv3 ⟨Nat.le_of_ble_eq_true rfl, Nat.le_of_ble_eq_true rfl⟩ hl.1 (Nat.le_of_ble_eq_true rfl) dX12_sheet_27 ?_
      refine lv_if_ne (tgt := 37) hx hb dX12_sheet_30 rfl (fun hc => ?_) (fun hc => ?_)
      · have h := ine hc h
        refine lv_aload_n hx hb dX12_sheet_37 rfl (lv_at hl 0 rfl) ?_
        refine mg_sheets X hP dX12_sheet_38 ?_
        refine lv_bipush (v := (8:Int32)) hx hb dX12_sheet_41 (by decide) ?_
        refine lv_icmp_ne (tgt := 50) hx hb dX12_sheet_43 rfl (fun hc => ?_) (fun hc => ?_)
        · have h := ine hc h
          refine lv_iconst (v := (0:Int32)) hx hb dX12_sheet_50 (by decide) ?_
          exact N_sheet_51 X hP hF (lv_sub hl [0, 1, 2, 3] rfl) h
        · have h := ip hc h
          refine lv_iconst (v := (3:Int32)) hx hb dX12_sheet_46 (by decide) ?_
          refine lv_goto (tgt := 51) hx hb dX12_sheet_47 rfl ?_
          exact N_sheet_51 X hP hF (lv_sub hl [0, 1, 2, 3] rfl) h
      · have h := ip hc h
        refine lv_iconst (v := (2:Int32)) hx hb dX12_sheet_33 (by decide) ?_
        refine lv_goto (tgt := 51) hx hb dX12_sheet_34 rfl ?_
        exact N_sheet_51 X hP hF (lv_sub hl [0, 1, 2, 3] rfl) h
    · have h := ip hc h
      exact N_sheet_21 X hP hF (lv_sub hl [0, 1, 2, 3] rfl) h
-- turn(IZ)Z
def f_turn_59  (x3 : Int32) (y1 : Int32) (y2 : Int32) (σ : mS) : Option (Int32 × mS) := (wr σ 30 y1 y2).bind (fun s1 => (f_markAll  s1).bind (fun v2 => rzw x3 v2))
def f_turn_44  (x1 : Int32) (x2 : Int32) (y0 : Int32) (σ : mS) : Option (Int32 × mS) := if x2 = (0:Int32) then (f_turn_59 (y0) (x1) ((0:Int32)) σ) else (f_turn_59 (y0) (x1) ((1:Int32)) σ)
def f_turn_21  (x1 : Int32) (x2 : Int32) (y1 : Int32) (σ : mS) : Option (Int32 × mS) := (f_holds (y1) σ).bind (fun v1 => if v1.1 = (0:Int32) then ((rd v1.2 30 x1).bind (fun v2 => if v2 = (1:Int32) then (f_turn_44 (x1) (x2) ((1:Int32)) v1.2) else (f_turn_44 (x1) (x2) ((0:Int32)) v1.2))) else (rzw (0:Int32) v1.2))
def f_turn (x1 : Int32) (x2 : Int32) (σ : mS) : Option (Int32 × mS) := (f_in (x1) ((0:Int32)) (((σ.2 31) - (1:Int32)))).bind (fun v1 => if v1 = (0:Int32) then (f_turn_21 (x1) (x2) ((1:Int32)) σ) else (f_turn_21 (x1) (x2) ((0:Int32)) σ))
set_option maxRecDepth 20000 in
set_option maxHeartbeats 4000000 in
theorem N_turn_59 {p : Program} {l : Launch} {e : Env} {s : State} {m : MethodId} {args : Array Value} {below : List Frame} {meth : Method} {c : Code} {D : mD} {mb : Nat}   {x3 : Int32} {y1 : Int32} {y2 : Int32} {σ : mS} {H : Heap} {locs : List Loc} {ls : Array Slot} {q : Int32 × mS} (X : mX p s m args meth c cX12_turn 4 (some .boolean) D) (hP : mP D mb σ H) (hF : mF mb s.heap H locs)  (hl : lv_has ls 4 [(0, .ref mb), (3, .int x3)]) (h : f_turn_59  x3 y1 y2 σ = some q) : mWw p l e 5 108 s m args below meth c D mb q.2 (some (.int q.1)) H locs (F0 m 59 ls [.int y2, .int y1, .ref (mA mb 30)]) := by
  have hx := X.1
  have hb := X.2.1
  have hown := X.2.2.2.1
  have hts := X.2.2.2.2.1
  have h : ((wr σ 30 y1 y2).bind (fun s1 => (f_markAll  s1).bind (fun v2 => rzw x3 v2))) = some q := h
  obtain ⟨s1, hs1, h⟩ := ob h
  refine m_ast X hP hF hs1 dX12_turn_59 (fun H locs hP hF => ?_)
  refine lv_aload_n hx hb dX12_turn_60 rfl (lv_at hl 0 rfl) ?_
  obtain ⟨v2, hv2, h⟩ := ob h
  refine cl_markAll X hP hF hv2 ⟨Nat.le_of_ble_eq_true rfl, Nat.le_of_ble_eq_true rfl⟩ hl.1 (Nat.le_of_ble_eq_true rfl) dX12_turn_61 (fun H locs hP hF => ?_)
  refine lv_iload_n hx hb dX12_turn_64 rfl (lv_at hl 1 rfl) ?_
  obtain ⟨hz, rfl⟩ := rzw_spec h
  exact m_wz X hz hP hF dX12_turn_65
set_option maxRecDepth 20000 in
set_option maxHeartbeats 4000000 in
theorem N_turn_44 {p : Program} {l : Launch} {e : Env} {s : State} {m : MethodId} {args : Array Value} {below : List Frame} {meth : Method} {c : Code} {D : mD} {mb : Nat}   {x1 : Int32} {x2 : Int32} {y0 : Int32} {σ : mS} {H : Heap} {locs : List Loc} {ls : Array Slot} {q : Int32 × mS} (X : mX p s m args meth c cX12_turn 4 (some .boolean) D) (hP : mP D mb σ H) (hF : mF mb s.heap H locs)  (hl : lv_has ls 4 [(0, .ref mb), (1, .int x1), (2, .int x2)]) (h : f_turn_44  x1 x2 y0 σ = some q) : mWw p l e 5 108 s m args below meth c D mb q.2 (some (.int q.1)) H locs (F0 m 44 ls [.int y0]) := by
  have hx := X.1
  have hb := X.2.1
  have hown := X.2.2.2.1
  have hts := X.2.2.2.2.1
  have h : (if x2 = (0:Int32) then (f_turn_59 (y0) (x1) ((0:Int32)) σ) else (f_turn_59 (y0) (x1) ((1:Int32)) σ)) = some q := h
  refine lv_istore_n hx hb dX12_turn_44 rfl hl (Nat.le_of_ble_eq_true rfl) rfl (fun ls (hl : lv_has ls 4 [(3, .int y0), (0, .ref mb), (1, .int x1), (2, .int x2)]) => ?_)
  refine lv_aload_n hx hb dX12_turn_45 rfl (lv_at hl 1 rfl) ?_
  refine mg_son X hP dX12_turn_46 ?_
  refine lv_iload_n hx hb dX12_turn_49 rfl (lv_at hl 2 rfl) ?_
  refine lv_iload_n hx hb dX12_turn_50 rfl (lv_at hl 3 rfl) ?_
  refine lv_if_eq (tgt := 58) hx hb dX12_turn_51 rfl (fun hc => ?_) (fun hc => ?_)
  · have h := ip hc h
    refine lv_iconst (v := (0:Int32)) hx hb dX12_turn_58 (by decide) ?_
    exact N_turn_59 X hP hF (lv_sub hl [1, 0] rfl) h
  · have h := ine hc h
    refine lv_iconst (v := (1:Int32)) hx hb dX12_turn_54 (by decide) ?_
    refine lv_goto (tgt := 59) hx hb dX12_turn_55 rfl ?_
    exact N_turn_59 X hP hF (lv_sub hl [1, 0] rfl) h
set_option maxRecDepth 20000 in
set_option maxHeartbeats 4000000 in
theorem N_turn_21 {p : Program} {l : Launch} {e : Env} {s : State} {m : MethodId} {args : Array Value} {below : List Frame} {meth : Method} {c : Code} {D : mD} {mb : Nat}   {x1 : Int32} {x2 : Int32} {y1 : Int32} {σ : mS} {H : Heap} {locs : List Loc} {ls : Array Slot} {q : Int32 × mS} (X : mX p s m args meth c cX12_turn 4 (some .boolean) D) (hP : mP D mb σ H) (hF : mF mb s.heap H locs)  (hl : lv_has ls 4 [(0, .ref mb), (1, .int x1), (2, .int x2)]) (h : f_turn_21  x1 x2 y1 σ = some q) : mWw p l e 5 108 s m args below meth c D mb q.2 (some (.int q.1)) H locs (F0 m 21 ls [.int y1, .ref mb]) := by
  have hx := X.1
  have hb := X.2.1
  have hown := X.2.2.2.1
  have hts := X.2.2.2.2.1
  have h : ((f_holds (y1) σ).bind (fun v1 => if v1.1 = (0:Int32) then ((rd v1.2 30 x1).bind (fun v2 => if v2 = (1:Int32) then (f_turn_44 (x1) (x2) ((1:Int32)) v1.2) else (f_turn_44 (x1) (x2) ((0:Int32)) v1.2))) else (rzw (0:Int32) v1.2))) = some q := h
  obtain ⟨v1, hv1, h⟩ := ob h
  refine cl_holds X hP hF hv1 ⟨Nat.le_of_ble_eq_true rfl, Nat.le_of_ble_eq_true rfl⟩ hl.1 (Nat.le_of_ble_eq_true rfl) dX12_turn_21 (fun H locs hP hF => ?_)
  refine lv_if_eq (tgt := 29) hx hb dX12_turn_24 rfl (fun hc => ?_) (fun hc => ?_)
  · have h := ip hc h
    refine lv_aload_n hx hb dX12_turn_29 rfl (lv_at hl 0 rfl) ?_
    refine mg_son X hP dX12_turn_30 ?_
    refine lv_iload_n hx hb dX12_turn_33 rfl (lv_at hl 1 rfl) ?_
    obtain ⟨v2, hv2, h⟩ := ob h
    refine m_ald X hP hv2 dX12_turn_34 ?_
    refine lv_iconst (v := (1:Int32)) hx hb dX12_turn_35 (by decide) ?_
    refine lv_icmp_ne (tgt := 43) hx hb dX12_turn_36 rfl (fun hc => ?_) (fun hc => ?_)
    · have h := ine hc h
      refine lv_iconst (v := (0:Int32)) hx hb dX12_turn_43 (by decide) ?_
      exact N_turn_44 X hP hF (lv_sub hl [0, 1, 2] rfl) h
    · have h := ip hc h
      refine lv_iconst (v := (1:Int32)) hx hb dX12_turn_39 (by decide) ?_
      refine lv_goto (tgt := 44) hx hb dX12_turn_40 rfl ?_
      exact N_turn_44 X hP hF (lv_sub hl [0, 1, 2] rfl) h
  · have h := ine hc h
    refine lv_iconst (v := (0:Int32)) hx hb dX12_turn_27 (by decide) ?_
    obtain ⟨hz, rfl⟩ := rzw_spec h
    exact m_wz X hz hP hF dX12_turn_28
set_option maxRecDepth 20000 in
set_option maxHeartbeats 4000000 in
theorem K_turn (l : Launch) (D : mD) (mb : Nat) (σ : mS) (x1 : Int32) (x2 : Int32) {q : Int32 × mS} (h : f_turn x1 x2 σ = some q) : Met l yX12_turn (Cond.code yX12_turn cX12_turn 4 (some .boolean) :: BG) (rM 5 108) (mPc D mb σ [.int x1, .int x2]) (mQw D mb q.2 (some (.int q.1))) 0 0 (mReg mb) := by
  refine Met.ofW (cc := cX12_turn) (maxL := 4) (ret := (some .boolean)) (by decide) rfl ?_
  intro p e s m args below meth c s₁ B hml hv
  obtain ⟨rfl, hP, hK⟩ := hv
  have X := mX_of B hml rfl hK
  have hx := X.1
  have hb := X.2.1
  have hown := X.2.2.2.1
  have hts := X.2.2.2.2.1
  have hl := lv_entry (.ref mb :: [.int x1, .int x2]) (n := 4) (Nat.le_of_ble_eq_true rfl)
  rw [lg_entry_eq]
  generalize (lg_sl (.ref mb :: [.int x1, .int x2]) ++ List.replicate (4 - (lg_sl (.ref mb :: [.int x1, .int x2])).length) Slot.unset).toArray = ls at hl ⊢
  have hl : lv_has ls 4 [(0, .ref mb), (1, .int x1), (2, .int x2)] := hl
  have hF : mF mb s.heap s.heap [] := mF.rf
  show mWw p l e 5 108 s m (Value.ref mb :: [.int x1, .int x2]).toArray below meth c D mb q.2 (some (.int q.1)) s.heap [] (F0 m 0 ls [])
  have h : ((f_in (x1) ((0:Int32)) (((σ.2 31) - (1:Int32)))).bind (fun v1 => if v1 = (0:Int32) then (f_turn_21 (x1) (x2) ((1:Int32)) σ) else (f_turn_21 (x1) (x2) ((0:Int32)) σ))) = some q := h
  refine lv_aload_n hx hb dX12_turn_0 rfl (lv_at hl 0 rfl) ?_
  refine lv_aload_n hx hb dX12_turn_1 rfl (lv_at hl 0 rfl) ?_
  refine lv_iload_n hx hb dX12_turn_2 rfl (lv_at hl 1 rfl) ?_
  refine lv_iconst (v := (0:Int32)) hx hb dX12_turn_3 (by decide) ?_
  refine lv_aload_n hx hb dX12_turn_4 rfl (lv_at hl 0 rfl) ?_
  refine mg_sheets X hP dX12_turn_5 ?_
  refine lv_iconst (v := (1:Int32)) hx hb dX12_turn_8 (by decide) ?_
  refine lv_isub hx hb dX12_turn_9 ?_
  obtain ⟨v1, hv1, h⟩ := ob h
  refine cl_in X hP hv1 ⟨Nat.le_of_ble_eq_true rfl, Nat.le_of_ble_eq_true rfl⟩ hl.1 (Nat.le_of_ble_eq_true rfl) dX12_turn_10 ?_
  refine lv_if_eq (tgt := 20) hx hb dX12_turn_13 rfl (fun hc => ?_) (fun hc => ?_)
  · have h := ip hc h
    refine lv_iconst (v := (1:Int32)) hx hb dX12_turn_20 (by decide) ?_
    exact N_turn_21 X hP hF (lv_sub hl [0, 1, 2] rfl) h
  · have h := ine hc h
    refine lv_iconst (v := (0:Int32)) hx hb dX12_turn_16 (by decide) ?_
    refine lv_goto (tgt := 21) hx hb dX12_turn_17 rfl ?_
    exact N_turn_21 X hP hF (lv_sub hl [0, 1, 2] rfl) h
-- rule(II)I
def f_rule_42  (x1 : Int32) (x2 : Int32) (y1 : Int32) (σ : mS) : Option (Int32 × mS) := (f_holds (y1) σ).bind (fun v1 => if v1.1 = (0:Int32) then ((wr v1.2 32 (v1.2.2 36) x1).bind (fun s2 => (wr s2 33 (s2.2 36) x2).bind (fun s3 => (wr s3 34 (s3.2 36) ((-1):Int32)).bind (fun s4 => (f_markAll  (sf s4 36 ((s4.2 36) + (1:Int32)))).bind (fun v5 => some (((v5.2 36) - (1:Int32)), v5)))))) else (some (((-1):Int32), v1.2)))
def f_rule_24  (x1 : Int32) (x2 : Int32) (σ : mS) : Option (Int32 × mS) := f_rule_42 (x1) (x2) ((1:Int32)) σ
def f_rule (x1 : Int32) (x2 : Int32) (σ : mS) : Option (Int32 × mS) := (f_in (x1) ((0:Int32)) (((σ.2 31) - (1:Int32)))).bind (fun v1 => if v1 = (0:Int32) then (f_rule_24 (x1) (x2) σ) else ((f_isSel (x2) σ).bind (fun v2 => if v2 = (0:Int32) then (f_rule_24 (x1) (x2) σ) else (if (σ.2 36) = (40:Int32) then (f_rule_42 (x1) (x2) ((2:Int32)) σ) else (f_rule_42 (x1) (x2) ((0:Int32)) σ)))))
set_option maxRecDepth 20000 in
set_option maxHeartbeats 4000000 in
theorem N_rule_42 {p : Program} {l : Launch} {e : Env} {s : State} {m : MethodId} {args : Array Value} {below : List Frame} {meth : Method} {c : Code} {D : mD} {mb : Nat}   {x1 : Int32} {x2 : Int32} {y1 : Int32} {σ : mS} {H : Heap} {locs : List Loc} {ls : Array Slot} {q : Int32 × mS} (X : mX p s m args meth c cX12_rule 3 (some .int) D) (hP : mP D mb σ H) (hF : mF mb s.heap H locs)  (hl : lv_has ls 3 [(0, .ref mb), (1, .int x1), (2, .int x2)]) (h : f_rule_42  x1 x2 y1 σ = some q) : mWw p l e 5 108 s m args below meth c D mb q.2 (some (.int q.1)) H locs (F0 m 42 ls [.int y1, .ref mb]) := by
  have hx := X.1
  have hb := X.2.1
  have hown := X.2.2.2.1
  have hts := X.2.2.2.2.1
  have h : ((f_holds (y1) σ).bind (fun v1 => if v1.1 = (0:Int32) then ((wr v1.2 32 (v1.2.2 36) x1).bind (fun s2 => (wr s2 33 (s2.2 36) x2).bind (fun s3 => (wr s3 34 (s3.2 36) ((-1):Int32)).bind (fun s4 => (f_markAll  (sf s4 36 ((s4.2 36) + (1:Int32)))).bind (fun v5 => some (((v5.2 36) - (1:Int32)), v5)))))) else (some (((-1):Int32), v1.2)))) = some q := h
  obtain ⟨v1, hv1, h⟩ := ob h
  refine cl_holds X hP hF hv1 ⟨Nat.le_of_ble_eq_true rfl, Nat.le_of_ble_eq_true rfl⟩ hl.1 (Nat.le_of_ble_eq_true rfl) dX12_rule_42 (fun H locs hP hF => ?_)
  refine lv_if_eq (tgt := 50) hx hb dX12_rule_45 rfl (fun hc => ?_) (fun hc => ?_)
  · have h := ip hc h
    refine lv_aload_n hx hb dX12_rule_50 rfl (lv_at hl 0 rfl) ?_
    refine mg_rs X hP dX12_rule_51 ?_
    refine lv_aload_n hx hb dX12_rule_54 rfl (lv_at hl 0 rfl) ?_
    refine mg_rules X hP dX12_rule_55 ?_
    refine lv_iload_n hx hb dX12_rule_58 rfl (lv_at hl 1 rfl) ?_
    obtain ⟨s2, hs2, h⟩ := ob h
    refine m_ast X hP hF hs2 dX12_rule_59 (fun H locs hP hF => ?_)
    refine lv_aload_n hx hb dX12_rule_60 rfl (lv_at hl 0 rfl) ?_
    refine mg_rsel X hP dX12_rule_61 ?_
    refine lv_aload_n hx hb dX12_rule_64 rfl (lv_at hl 0 rfl) ?_
    refine mg_rules X hP dX12_rule_65 ?_
    refine lv_iload_n hx hb dX12_rule_68 rfl (lv_at hl 2 rfl) ?_
    obtain ⟨s3, hs3, h⟩ := ob h
    refine m_ast X hP hF hs3 dX12_rule_69 (fun H locs hP hF => ?_)
    refine lv_aload_n hx hb dX12_rule_70 rfl (lv_at hl 0 rfl) ?_
    refine mg_rc X hP dX12_rule_71 ?_
    refine lv_aload_n hx hb dX12_rule_74 rfl (lv_at hl 0 rfl) ?_
    refine mg_rules X hP dX12_rule_75 ?_
    refine lv_iconst (v := ((-1):Int32)) hx hb dX12_rule_78 (by decide) ?_
    obtain ⟨s4, hs4, h⟩ := ob h
    refine m_ast X hP hF hs4 dX12_rule_79 (fun H locs hP hF => ?_)
    refine lv_aload_n hx hb dX12_rule_80 rfl (lv_at hl 0 rfl) ?_
    refine lv_dup hx hb dX12_rule_81 rfl ?_
    refine mg_rules X hP dX12_rule_82 ?_
    refine lv_iconst (v := (1:Int32)) hx hb dX12_rule_85 (by decide) ?_
    refine lv_iadd hx hb dX12_rule_86 ?_
    refine mp_rules X hP hF dX12_rule_87 (fun H locs hP hF => ?_)
    refine lv_aload_n hx hb dX12_rule_90 rfl (lv_at hl 0 rfl) ?_
    obtain ⟨v5, hv5, h⟩ := ob h
    refine cl_markAll X hP hF hv5 ⟨Nat.le_of_ble_eq_true rfl, Nat.le_of_ble_eq_true rfl⟩ hl.1 (Nat.le_of_ble_eq_true rfl) dX12_rule_91 (fun H locs hP hF => ?_)
    refine lv_aload_n hx hb dX12_rule_94 rfl (lv_at hl 0 rfl) ?_
    refine mg_rules X hP dX12_rule_95 ?_
    refine lv_iconst (v := (1:Int32)) hx hb dX12_rule_98 (by decide) ?_
    refine lv_isub hx hb dX12_rule_99 ?_
    obtain rfl := sj h
    exact m_wi X hP hF dX12_rule_100
  · have h := ine hc h
    refine lv_iconst (v := ((-1):Int32)) hx hb dX12_rule_48 (by decide) ?_
    obtain rfl := sj h
    exact m_wi X hP hF dX12_rule_49
set_option maxRecDepth 20000 in
set_option maxHeartbeats 4000000 in
theorem N_rule_24 {p : Program} {l : Launch} {e : Env} {s : State} {m : MethodId} {args : Array Value} {below : List Frame} {meth : Method} {c : Code} {D : mD} {mb : Nat}   {x1 : Int32} {x2 : Int32} {σ : mS} {H : Heap} {locs : List Loc} {ls : Array Slot} {q : Int32 × mS} (X : mX p s m args meth c cX12_rule 3 (some .int) D) (hP : mP D mb σ H) (hF : mF mb s.heap H locs)  (hl : lv_has ls 3 [(0, .ref mb), (1, .int x1), (2, .int x2)]) (h : f_rule_24  x1 x2 σ = some q) : mWw p l e 5 108 s m args below meth c D mb q.2 (some (.int q.1)) H locs (F0 m 24 ls [.ref mb]) := by
  have hx := X.1
  have hb := X.2.1
  have hown := X.2.2.2.1
  have hts := X.2.2.2.2.1
  have h : (f_rule_42 (x1) (x2) ((1:Int32)) σ) = some q := h
  refine lv_iconst (v := (1:Int32)) hx hb dX12_rule_24 (by decide) ?_
  refine lv_goto (tgt := 42) hx hb dX12_rule_25 rfl ?_
  exact N_rule_42 X hP hF (lv_sub hl [0, 1, 2] rfl) h
set_option maxRecDepth 20000 in
set_option maxHeartbeats 4000000 in
theorem K_rule (l : Launch) (D : mD) (mb : Nat) (σ : mS) (x1 : Int32) (x2 : Int32) {q : Int32 × mS} (h : f_rule x1 x2 σ = some q) : Met l yX12_rule (Cond.code yX12_rule cX12_rule 3 (some .int) :: BG) (rM 5 108) (mPc D mb σ [.int x1, .int x2]) (mQw D mb q.2 (some (.int q.1))) 0 0 (mReg mb) := by
  refine Met.ofW (cc := cX12_rule) (maxL := 3) (ret := (some .int)) (by decide) rfl ?_
  intro p e s m args below meth c s₁ B hml hv
  obtain ⟨rfl, hP, hK⟩ := hv
  have X := mX_of B hml rfl hK
  have hx := X.1
  have hb := X.2.1
  have hown := X.2.2.2.1
  have hts := X.2.2.2.2.1
  have hl := lv_entry (.ref mb :: [.int x1, .int x2]) (n := 3) (Nat.le_of_ble_eq_true rfl)
  rw [lg_entry_eq]
  generalize (lg_sl (.ref mb :: [.int x1, .int x2]) ++ List.replicate (3 - (lg_sl (.ref mb :: [.int x1, .int x2])).length) Slot.unset).toArray = ls at hl ⊢
  have hl : lv_has ls 3 [(0, .ref mb), (1, .int x1), (2, .int x2)] := hl
  have hF : mF mb s.heap s.heap [] := mF.rf
  show mWw p l e 5 108 s m (Value.ref mb :: [.int x1, .int x2]).toArray below meth c D mb q.2 (some (.int q.1)) s.heap [] (F0 m 0 ls [])
  have h : ((f_in (x1) ((0:Int32)) (((σ.2 31) - (1:Int32)))).bind (fun v1 => if v1 = (0:Int32) then (f_rule_24 (x1) (x2) σ) else ((f_isSel (x2) σ).bind (fun v2 => if v2 = (0:Int32) then (f_rule_24 (x1) (x2) σ) else (if (σ.2 36) = (40:Int32) then (f_rule_42 (x1) (x2) ((2:Int32)) σ) else (f_rule_42 (x1) (x2) ((0:Int32)) σ)))))) = some q := h
  refine lv_aload_n hx hb dX12_rule_0 rfl (lv_at hl 0 rfl) ?_
  refine lv_aload_n hx hb dX12_rule_1 rfl (lv_at hl 0 rfl) ?_
  refine lv_iload_n hx hb dX12_rule_2 rfl (lv_at hl 1 rfl) ?_
  refine lv_iconst (v := (0:Int32)) hx hb dX12_rule_3 (by decide) ?_
  refine lv_aload_n hx hb dX12_rule_4 rfl (lv_at hl 0 rfl) ?_
  refine mg_sheets X hP dX12_rule_5 ?_
  refine lv_iconst (v := (1:Int32)) hx hb dX12_rule_8 (by decide) ?_
  refine lv_isub hx hb dX12_rule_9 ?_
  obtain ⟨v1, hv1, h⟩ := ob h
  refine cl_in X hP hv1 ⟨Nat.le_of_ble_eq_true rfl, Nat.le_of_ble_eq_true rfl⟩ hl.1 (Nat.le_of_ble_eq_true rfl) dX12_rule_10 ?_
  refine lv_if_eq (tgt := 24) hx hb dX12_rule_13 rfl (fun hc => ?_) (fun hc => ?_)
  · have h := ip hc h
    exact N_rule_24 X hP hF (lv_sub hl [0, 1, 2] rfl) h
  · have h := ine hc h
    refine lv_aload_n hx hb dX12_rule_16 rfl (lv_at hl 0 rfl) ?_
    refine lv_iload_n hx hb dX12_rule_17 rfl (lv_at hl 2 rfl) ?_
    obtain ⟨v2, hv2, h⟩ := ob h
    refine cl_isSel X hP hv2 ⟨Nat.le_of_ble_eq_true rfl, Nat.le_of_ble_eq_true rfl⟩ hl.1 (Nat.le_of_ble_eq_true rfl) dX12_rule_18 ?_
    refine lv_if_ne (tgt := 28) hx hb dX12_rule_21 rfl (fun hc => ?_) (fun hc => ?_)
    · have h := ine hc h
      refine lv_aload_n hx hb dX12_rule_28 rfl (lv_at hl 0 rfl) ?_
      refine mg_rules X hP dX12_rule_29 ?_
      refine lv_bipush (v := (40:Int32)) hx hb dX12_rule_32 (by decide) ?_
      refine lv_icmp_ne (tgt := 41) hx hb dX12_rule_34 rfl (fun hc => ?_) (fun hc => ?_)
      · have h := ine hc h
        refine lv_iconst (v := (0:Int32)) hx hb dX12_rule_41 (by decide) ?_
        exact N_rule_42 X hP hF (lv_sub hl [0, 1, 2] rfl) h
      · have h := ip hc h
        refine lv_iconst (v := (2:Int32)) hx hb dX12_rule_37 (by decide) ?_
        refine lv_goto (tgt := 42) hx hb dX12_rule_38 rfl ?_
        exact N_rule_42 X hP hF (lv_sub hl [0, 1, 2] rfl) h
    · have h := ip hc h
      exact N_rule_24 X hP hF (lv_sub hl [0, 1, 2] rfl) h
