theorem dX12_isRule_0 : decode cX12_isRule 0 = .ok (.aload_n 0, 1) := by decide +kernel
theorem dX12_isRule_1 : decode cX12_isRule 1 = .ok (.iload_n 1, 1) := by decide +kernel
theorem dX12_isRule_2 : decode cX12_isRule 2 = .ok (.iconst 0, 1) := by decide +kernel
theorem dX12_isRule_3 : decode cX12_isRule 3 = .ok (.aload_n 0, 1) := by decide +kernel
theorem dX12_isRule_4 : decode cX12_isRule 4 = .ok (.getfield 325, 3) := by decide +kernel
theorem dX12_isRule_7 : decode cX12_isRule 7 = .ok (.iconst 1, 1) := by decide +kernel
theorem dX12_isRule_8 : decode cX12_isRule 8 = .ok (.isub, 1) := by decide +kernel
theorem dX12_isRule_9 : decode cX12_isRule 9 = .ok (.invokevirtual 230, 3) := by decide +kernel
theorem dX12_isRule_12 : decode cX12_isRule 12 = .ok (.ireturn, 1) := by decide +kernel
theorem dX12_when_0 : decode cX12_when 0 = .ok (.aload_n 0, 1) := by decide +kernel
theorem dX12_when_1 : decode cX12_when 1 = .ok (.aload_n 0, 1) := by decide +kernel
theorem dX12_when_2 : decode cX12_when 2 = .ok (.iload_n 1, 1) := by decide +kernel
theorem dX12_when_3 : decode cX12_when 3 = .ok (.invokevirtual 540, 3) := by decide +kernel
theorem dX12_when_6 : decode cX12_when 6 = .ok (.ifCond .ne 7, 3) := by decide +kernel
theorem dX12_when_9 : decode cX12_when 9 = .ok (.iconst 1, 1) := by decide +kernel
theorem dX12_when_10 : decode cX12_when 10 = .ok (.goto 32, 3) := by decide +kernel
theorem dX12_when_13 : decode cX12_when 13 = .ok (.aload_n 0, 1) := by decide +kernel
theorem dX12_when_14 : decode cX12_when 14 = .ok (.iload_n 2, 1) := by decide +kernel
theorem dX12_when_15 : decode cX12_when 15 = .ok (.iconst (-1), 1) := by decide +kernel
theorem dX12_when_16 : decode cX12_when 16 = .ok (.iconst 4, 1) := by decide +kernel
theorem dX12_when_17 : decode cX12_when 17 = .ok (.invokevirtual 230, 3) := by decide +kernel
theorem dX12_when_20 : decode cX12_when 20 = .ok (.ifCond .eq 21, 3) := by decide +kernel
theorem dX12_when_23 : decode cX12_when 23 = .ok (.aload_n 0, 1) := by decide +kernel
theorem dX12_when_24 : decode cX12_when 24 = .ok (.iload_n 3, 1) := by decide +kernel
theorem dX12_when_25 : decode cX12_when 25 = .ok (.sipush (-9999), 3) := by decide +kernel
theorem dX12_when_28 : decode cX12_when 28 = .ok (.sipush 9999, 3) := by decide +kernel
theorem dX12_when_31 : decode cX12_when 31 = .ok (.invokevirtual 230, 3) := by decide +kernel
theorem dX12_when_34 : decode cX12_when 34 = .ok (.ifCond .eq 7, 3) := by decide +kernel
theorem dX12_when_37 : decode cX12_when 37 = .ok (.iconst 0, 1) := by decide +kernel
theorem dX12_when_38 : decode cX12_when 38 = .ok (.goto 4, 3) := by decide +kernel
theorem dX12_when_41 : decode cX12_when 41 = .ok (.iconst 2, 1) := by decide +kernel
theorem dX12_when_42 : decode cX12_when 42 = .ok (.invokevirtual 512, 3) := by decide +kernel
theorem dX12_when_45 : decode cX12_when 45 = .ok (.ifCond .ne 21, 3) := by decide +kernel
theorem dX12_when_48 : decode cX12_when 48 = .ok (.aload_n 0, 1) := by decide +kernel
theorem dX12_when_49 : decode cX12_when 49 = .ok (.getfield 103, 3) := by decide +kernel
theorem dX12_when_52 : decode cX12_when 52 = .ok (.iload_n 1, 1) := by decide +kernel
theorem dX12_when_53 : decode cX12_when 53 = .ok (.iload_n 2, 1) := by decide +kernel
theorem dX12_when_54 : decode cX12_when 54 = .ok (.iastore, 1) := by decide +kernel
theorem dX12_when_55 : decode cX12_when 55 = .ok (.aload_n 0, 1) := by decide +kernel
theorem dX12_when_56 : decode cX12_when 56 = .ok (.getfield 106, 3) := by decide +kernel
theorem dX12_when_59 : decode cX12_when 59 = .ok (.iload_n 1, 1) := by decide +kernel
theorem dX12_when_60 : decode cX12_when 60 = .ok (.iload_n 3, 1) := by decide +kernel
theorem dX12_when_61 : decode cX12_when 61 = .ok (.iastore, 1) := by decide +kernel
theorem dX12_when_62 : decode cX12_when 62 = .ok (.aload_n 0, 1) := by decide +kernel
theorem dX12_when_63 : decode cX12_when 63 = .ok (.invokevirtual 509, 3) := by decide +kernel
theorem dX12_when_66 : decode cX12_when 66 = .ok (.return_, 1) := by decide +kernel
theorem dX12_rowOf_0 : decode cX12_rowOf 0 = .ok (.aload_n 0, 1) := by decide +kernel
theorem dX12_rowOf_1 : decode cX12_rowOf 1 = .ok (.iload_n 1, 1) := by decide +kernel
theorem dX12_rowOf_2 : decode cX12_rowOf 2 = .ok (.invokevirtual 540, 3) := by decide +kernel
theorem dX12_rowOf_5 : decode cX12_rowOf 5 = .ok (.ifCond .eq 10, 3) := by decide +kernel
theorem dX12_rowOf_8 : decode cX12_rowOf 8 = .ok (.bipush 16, 2) := by decide +kernel
theorem dX12_rowOf_10 : decode cX12_rowOf 10 = .ok (.iload_n 1, 1) := by decide +kernel
theorem dX12_rowOf_11 : decode cX12_rowOf 11 = .ok (.imul, 1) := by decide +kernel
theorem dX12_rowOf_12 : decode cX12_rowOf 12 = .ok (.goto 31, 3) := by decide +kernel
theorem dX12_rowOf_15 : decode cX12_rowOf 15 = .ok (.iload_n 1, 1) := by decide +kernel
theorem dX12_rowOf_16 : decode cX12_rowOf 16 = .ok (.bipush 100, 2) := by decide +kernel
theorem dX12_rowOf_18 : decode cX12_rowOf 18 = .ok (.if_icmp .lt 24, 3) := by decide +kernel
theorem dX12_rowOf_21 : decode cX12_rowOf 21 = .ok (.aload_n 0, 1) := by decide +kernel
theorem dX12_rowOf_22 : decode cX12_rowOf 22 = .ok (.iload_n 1, 1) := by decide +kernel
theorem dX12_rowOf_23 : decode cX12_rowOf 23 = .ok (.bipush 100, 2) := by decide +kernel
theorem dX12_rowOf_25 : decode cX12_rowOf 25 = .ok (.isub, 1) := by decide +kernel
theorem dX12_rowOf_26 : decode cX12_rowOf 26 = .ok (.invokevirtual 234, 3) := by decide +kernel
theorem dX12_rowOf_29 : decode cX12_rowOf 29 = .ok (.ifCond .eq 13, 3) := by decide +kernel
theorem dX12_rowOf_32 : decode cX12_rowOf 32 = .ok (.bipush 16, 2) := by decide +kernel
theorem dX12_rowOf_34 : decode cX12_rowOf 34 = .ok (.iload_n 1, 1) := by decide +kernel
theorem dX12_rowOf_35 : decode cX12_rowOf 35 = .ok (.bipush 60, 2) := by decide +kernel
theorem dX12_rowOf_37 : decode cX12_rowOf 37 = .ok (.isub, 1) := by decide +kernel
theorem dX12_rowOf_38 : decode cX12_rowOf 38 = .ok (.imul, 1) := by decide +kernel
theorem dX12_rowOf_39 : decode cX12_rowOf 39 = .ok (.goto 4, 3) := by decide +kernel
theorem dX12_rowOf_42 : decode cX12_rowOf 42 = .ok (.iconst (-1), 1) := by decide +kernel
theorem dX12_rowOf_43 : decode cX12_rowOf 43 = .ok (.ireturn, 1) := by decide +kernel
theorem dX12_declared_0 : decode cX12_declared 0 = .ok (.iconst 0, 1) := by decide +kernel
theorem dX12_declared_1 : decode cX12_declared 1 = .ok (.istore_n 2, 1) := by decide +kernel
theorem dX12_declared_2 : decode cX12_declared 2 = .ok (.iconst 0, 1) := by decide +kernel
theorem dX12_declared_3 : decode cX12_declared 3 = .ok (.istore_n 3, 1) := by decide +kernel
theorem dX12_declared_4 : decode cX12_declared 4 = .ok (.iload_n 3, 1) := by decide +kernel
theorem dX12_declared_5 : decode cX12_declared 5 = .ok (.bipush 15, 2) := by decide +kernel
theorem dX12_declared_7 : decode cX12_declared 7 = .ok (.if_icmp .ge 28, 3) := by decide +kernel
theorem dX12_declared_10 : decode cX12_declared 10 = .ok (.iload_n 2, 1) := by decide +kernel
theorem dX12_declared_11 : decode cX12_declared 11 = .ok (.aload_n 0, 1) := by decide +kernel
theorem dX12_declared_12 : decode cX12_declared 12 = .ok (.getfield 109, 3) := by decide +kernel
theorem dX12_declared_15 : decode cX12_declared 15 = .ok (.iload_n 1, 1) := by decide +kernel
theorem dX12_declared_16 : decode cX12_declared 16 = .ok (.iload_n 3, 1) := by decide +kernel
theorem dX12_declared_17 : decode cX12_declared 17 = .ok (.iadd, 1) := by decide +kernel
theorem dX12_declared_18 : decode cX12_declared 18 = .ok (.iaload, 1) := by decide +kernel
theorem dX12_declared_19 : decode cX12_declared 19 = .ok (.ifCond .lt 7, 3) := by decide +kernel
theorem dX12_declared_22 : decode cX12_declared 22 = .ok (.iconst 1, 1) := by decide +kernel
theorem dX12_declared_23 : decode cX12_declared 23 = .ok (.goto 4, 3) := by decide +kernel
theorem dX12_declared_26 : decode cX12_declared 26 = .ok (.iconst 0, 1) := by decide +kernel
theorem dX12_declared_27 : decode cX12_declared 27 = .ok (.iadd, 1) := by decide +kernel
theorem dX12_declared_28 : decode cX12_declared 28 = .ok (.istore_n 2, 1) := by decide +kernel
theorem dX12_declared_29 : decode cX12_declared 29 = .ok (.iinc 3 1, 3) := by decide +kernel
theorem dX12_declared_32 : decode cX12_declared 32 = .ok (.goto (-28), 3) := by decide +kernel
theorem dX12_declared_35 : decode cX12_declared 35 = .ok (.iload_n 2, 1) := by decide +kernel
theorem dX12_declared_36 : decode cX12_declared 36 = .ok (.ireturn, 1) := by decide +kernel
theorem dX12_markRow_0 : decode cX12_markRow 0 = .ok (.iload_n 1, 1) := by decide +kernel
theorem dX12_markRow_1 : decode cX12_markRow 1 = .ok (.sipush 640, 3) := by decide +kernel
theorem dX12_markRow_4 : decode cX12_markRow 4 = .ok (.if_icmp .ge 10, 3) := by decide +kernel
theorem dX12_markRow_7 : decode cX12_markRow 7 = .ok (.aload_n 0, 1) := by decide +kernel
theorem dX12_markRow_8 : decode cX12_markRow 8 = .ok (.invokevirtual 509, 3) := by decide +kernel
theorem dX12_markRow_11 : decode cX12_markRow 11 = .ok (.goto 16, 3) := by decide +kernel
theorem dX12_markRow_14 : decode cX12_markRow 14 = .ok (.aload_n 0, 1) := by decide +kernel
theorem dX12_markRow_15 : decode cX12_markRow 15 = .ok (.iconst 1, 1) := by decide +kernel
theorem dX12_markRow_16 : decode cX12_markRow 16 = .ok (.iload_n 1, 1) := by decide +kernel
theorem dX12_markRow_17 : decode cX12_markRow 17 = .ok (.bipush 16, 2) := by decide +kernel
theorem dX12_markRow_19 : decode cX12_markRow 19 = .ok (.idiv, 1) := by decide +kernel
theorem dX12_markRow_20 : decode cX12_markRow 20 = .ok (.bipush 40, 2) := by decide +kernel
theorem dX12_markRow_22 : decode cX12_markRow 22 = .ok (.isub, 1) := by decide +kernel
theorem dX12_markRow_23 : decode cX12_markRow 23 = .ok (.ishl, 1) := by decide +kernel
theorem dX12_markRow_24 : decode cX12_markRow 24 = .ok (.invokevirtual 497, 3) := by decide +kernel
theorem dX12_markRow_27 : decode cX12_markRow 27 = .ok (.aload_n 0, 1) := by decide +kernel
theorem dX12_markRow_28 : decode cX12_markRow 28 = .ok (.iload_n 1, 1) := by decide +kernel
theorem dX12_markRow_29 : decode cX12_markRow 29 = .ok (.invokevirtual 543, 3) := by decide +kernel
theorem dX12_markRow_32 : decode cX12_markRow 32 = .ok (.ireturn, 1) := by decide +kernel
theorem dX12_lay_0 : decode cX12_lay 0 = .ok (.aload_n 0, 1) := by decide +kernel
theorem dX12_lay_1 : decode cX12_lay 1 = .ok (.getfield 109, 3) := by decide +kernel
theorem dX12_lay_4 : decode cX12_lay 4 = .ok (.iload_n 1, 1) := by decide +kernel
theorem dX12_lay_5 : decode cX12_lay 5 = .ok (.iload_n 2, 1) := by decide +kernel
theorem dX12_lay_6 : decode cX12_lay 6 = .ok (.iastore, 1) := by decide +kernel
theorem dX12_lay_7 : decode cX12_lay 7 = .ok (.aload_n 0, 1) := by decide +kernel
theorem dX12_lay_8 : decode cX12_lay 8 = .ok (.getfield 112, 3) := by decide +kernel
theorem dX12_lay_11 : decode cX12_lay 11 = .ok (.iload_n 1, 1) := by decide +kernel
theorem dX12_lay_12 : decode cX12_lay 12 = .ok (.iload_n 3, 1) := by decide +kernel
theorem dX12_lay_13 : decode cX12_lay 13 = .ok (.iastore, 1) := by decide +kernel
theorem dX12_lay_14 : decode cX12_lay 14 = .ok (.aload_n 0, 1) := by decide +kernel
theorem dX12_lay_15 : decode cX12_lay 15 = .ok (.getfield 115, 3) := by decide +kernel
theorem dX12_lay_18 : decode cX12_lay 18 = .ok (.iload_n 1, 1) := by decide +kernel
theorem dX12_lay_19 : decode cX12_lay 19 = .ok (.iload 4, 2) := by decide +kernel
theorem dX12_lay_21 : decode cX12_lay 21 = .ok (.ifCond .eq 7, 3) := by decide +kernel
theorem dX12_lay_24 : decode cX12_lay 24 = .ok (.iconst 1, 1) := by decide +kernel
theorem dX12_lay_25 : decode cX12_lay 25 = .ok (.goto 4, 3) := by decide +kernel
theorem dX12_lay_28 : decode cX12_lay 28 = .ok (.iconst 0, 1) := by decide +kernel
theorem dX12_lay_29 : decode cX12_lay 29 = .ok (.iastore, 1) := by decide +kernel
theorem dX12_lay_30 : decode cX12_lay 30 = .ok (.aload_n 0, 1) := by decide +kernel
theorem dX12_lay_31 : decode cX12_lay 31 = .ok (.getfield 118, 3) := by decide +kernel
theorem dX12_lay_34 : decode cX12_lay 34 = .ok (.iload_n 1, 1) := by decide +kernel
theorem dX12_lay_35 : decode cX12_lay 35 = .ok (.iload 5, 2) := by decide +kernel
theorem dX12_lay_37 : decode cX12_lay 37 = .ok (.iastore, 1) := by decide +kernel
theorem dX12_lay_38 : decode cX12_lay 38 = .ok (.aload_n 0, 1) := by decide +kernel
theorem dX12_lay_39 : decode cX12_lay 39 = .ok (.getfield 121, 3) := by decide +kernel
theorem dX12_lay_42 : decode cX12_lay 42 = .ok (.iload_n 1, 1) := by decide +kernel
theorem dX12_lay_43 : decode cX12_lay 43 = .ok (.iload 6, 2) := by decide +kernel
theorem dX12_lay_45 : decode cX12_lay 45 = .ok (.iastore, 1) := by decide +kernel
theorem dX12_lay_46 : decode cX12_lay 46 = .ok (.aload_n 0, 1) := by decide +kernel
theorem dX12_lay_47 : decode cX12_lay 47 = .ok (.getfield 124, 3) := by decide +kernel
theorem dX12_lay_50 : decode cX12_lay 50 = .ok (.iload_n 1, 1) := by decide +kernel
theorem dX12_lay_51 : decode cX12_lay 51 = .ok (.iload 7, 2) := by decide +kernel
theorem dX12_lay_53 : decode cX12_lay 53 = .ok (.iastore, 1) := by decide +kernel
theorem dX12_lay_54 : decode cX12_lay 54 = .ok (.return_, 1) := by decide +kernel
theorem dX12_declare_0 : decode cX12_declare 0 = .ok (.aload_n 0, 1) := by decide +kernel
theorem dX12_declare_1 : decode cX12_declare 1 = .ok (.iload_n 1, 1) := by decide +kernel
theorem dX12_declare_2 : decode cX12_declare 2 = .ok (.invokevirtual 546, 3) := by decide +kernel
theorem dX12_declare_5 : decode cX12_declare 5 = .ok (.istore 6, 2) := by decide +kernel
theorem dX12_declare_7 : decode cX12_declare 7 = .ok (.aload_n 0, 1) := by decide +kernel
theorem dX12_declare_8 : decode cX12_declare 8 = .ok (.iload_n 2, 1) := by decide +kernel
theorem dX12_declare_9 : decode cX12_declare 9 = .ok (.iconst 0, 1) := by decide +kernel
theorem dX12_declare_10 : decode cX12_declare 10 = .ok (.bipush 15, 2) := by decide +kernel
theorem dX12_declare_12 : decode cX12_declare 12 = .ok (.invokevirtual 230, 3) := by decide +kernel
theorem dX12_declare_15 : decode cX12_declare 15 = .ok (.ifCond .eq 57, 3) := by decide +kernel
theorem dX12_declare_18 : decode cX12_declare 18 = .ok (.aload_n 0, 1) := by decide +kernel
theorem dX12_declare_19 : decode cX12_declare 19 = .ok (.iload_n 3, 1) := by decide +kernel
theorem dX12_declare_20 : decode cX12_declare 20 = .ok (.iconst 0, 1) := by decide +kernel
theorem dX12_declare_21 : decode cX12_declare 21 = .ok (.bipush 10, 2) := by decide +kernel
theorem dX12_declare_23 : decode cX12_declare 23 = .ok (.invokevirtual 230, 3) := by decide +kernel
theorem dX12_declare_26 : decode cX12_declare 26 = .ok (.ifCond .eq 46, 3) := by decide +kernel
theorem dX12_declare_29 : decode cX12_declare 29 = .ok (.iload_n 3, 1) := by decide +kernel
theorem dX12_declare_30 : decode cX12_declare 30 = .ok (.iconst 5, 1) := by decide +kernel
theorem dX12_declare_31 : decode cX12_declare 31 = .ok (.if_icmp .gt 18, 3) := by decide +kernel
theorem dX12_declare_34 : decode cX12_declare 34 = .ok (.aload_n 0, 1) := by decide +kernel
theorem dX12_declare_35 : decode cX12_declare 35 = .ok (.iload 4, 2) := by decide +kernel
theorem dX12_declare_37 : decode cX12_declare 37 = .ok (.sipush (-9999), 3) := by decide +kernel
theorem dX12_declare_40 : decode cX12_declare 40 = .ok (.sipush 9999, 3) := by decide +kernel
theorem dX12_declare_43 : decode cX12_declare 43 = .ok (.invokevirtual 230, 3) := by decide +kernel
theorem dX12_declare_46 : decode cX12_declare 46 = .ok (.ifCond .eq 26, 3) := by decide +kernel
theorem dX12_declare_49 : decode cX12_declare 49 = .ok (.aload_n 0, 1) := by decide +kernel
theorem dX12_declare_50 : decode cX12_declare 50 = .ok (.iload_n 2, 1) := by decide +kernel
theorem dX12_declare_51 : decode cX12_declare 51 = .ok (.bipush 15, 2) := by decide +kernel
theorem dX12_declare_53 : decode cX12_declare 53 = .ok (.if_icmp .ne 7, 3) := by decide +kernel
theorem dX12_declare_56 : decode cX12_declare 56 = .ok (.iconst 3, 1) := by decide +kernel
theorem dX12_declare_57 : decode cX12_declare 57 = .ok (.goto 4, 3) := by decide +kernel
theorem dX12_declare_60 : decode cX12_declare 60 = .ok (.iload_n 2, 1) := by decide +kernel
theorem dX12_declare_61 : decode cX12_declare 61 = .ok (.iload_n 3, 1) := by decide +kernel
theorem dX12_declare_62 : decode cX12_declare 62 = .ok (.invokevirtual 395, 3) := by decide +kernel
theorem dX12_declare_65 : decode cX12_declare 65 = .ok (.ifCond .eq 7, 3) := by decide +kernel
theorem dX12_declare_68 : decode cX12_declare 68 = .ok (.iconst 1, 1) := by decide +kernel
theorem dX12_declare_69 : decode cX12_declare 69 = .ok (.goto 4, 3) := by decide +kernel
theorem dX12_declare_72 : decode cX12_declare 72 = .ok (.iconst 0, 1) := by decide +kernel
theorem dX12_declare_73 : decode cX12_declare 73 = .ok (.istore 7, 2) := by decide +kernel
theorem dX12_declare_75 : decode cX12_declare 75 = .ok (.aload_n 0, 1) := by decide +kernel
theorem dX12_declare_76 : decode cX12_declare 76 = .ok (.iload 6, 2) := by decide +kernel
theorem dX12_declare_78 : decode cX12_declare 78 = .ok (.ifCond .ge 7, 3) := by decide +kernel
theorem dX12_declare_81 : decode cX12_declare 81 = .ok (.iconst 1, 1) := by decide +kernel
theorem dX12_declare_82 : decode cX12_declare 82 = .ok (.goto 13, 3) := by decide +kernel
theorem dX12_declare_85 : decode cX12_declare 85 = .ok (.iload 7, 2) := by decide +kernel
theorem dX12_declare_87 : decode cX12_declare 87 = .ok (.ifCond .eq 7, 3) := by decide +kernel
theorem dX12_declare_90 : decode cX12_declare 90 = .ok (.iconst 0, 1) := by decide +kernel
theorem dX12_declare_91 : decode cX12_declare 91 = .ok (.goto 4, 3) := by decide +kernel
theorem dX12_declare_94 : decode cX12_declare 94 = .ok (.iconst 2, 1) := by decide +kernel
theorem dX12_declare_95 : decode cX12_declare 95 = .ok (.invokevirtual 512, 3) := by decide +kernel
theorem dX12_declare_98 : decode cX12_declare 98 = .ok (.ifCond .eq 5, 3) := by decide +kernel
theorem dX12_declare_101 : decode cX12_declare 101 = .ok (.iconst (-1), 1) := by decide +kernel
theorem dX12_declare_102 : decode cX12_declare 102 = .ok (.ireturn, 1) := by decide +kernel
theorem dX12_declare_103 : decode cX12_declare 103 = .ok (.aload_n 0, 1) := by decide +kernel
theorem dX12_declare_104 : decode cX12_declare 104 = .ok (.iload 6, 2) := by decide +kernel
theorem dX12_declare_106 : decode cX12_declare 106 = .ok (.iload_n 2, 1) := by decide +kernel
theorem dX12_declare_107 : decode cX12_declare 107 = .ok (.bipush 15, 2) := by decide +kernel
theorem dX12_declare_109 : decode cX12_declare 109 = .ok (.if_icmp .ne 7, 3) := by decide +kernel
theorem dX12_declare_112 : decode cX12_declare 112 = .ok (.iconst 3, 1) := by decide +kernel
theorem dX12_declare_113 : decode cX12_declare 113 = .ok (.goto 4, 3) := by decide +kernel
theorem dX12_declare_116 : decode cX12_declare 116 = .ok (.iload_n 2, 1) := by decide +kernel
theorem dX12_declare_117 : decode cX12_declare 117 = .ok (.iadd, 1) := by decide +kernel
theorem dX12_declare_118 : decode cX12_declare 118 = .ok (.iload_n 3, 1) := by decide +kernel
theorem dX12_declare_119 : decode cX12_declare 119 = .ok (.iload 4, 2) := by decide +kernel
theorem dX12_declare_121 : decode cX12_declare 121 = .ok (.iload 5, 2) := by decide +kernel
theorem dX12_declare_123 : decode cX12_declare 123 = .ok (.iconst 0, 1) := by decide +kernel
theorem dX12_declare_124 : decode cX12_declare 124 = .ok (.iconst (-1), 1) := by decide +kernel
theorem dX12_declare_125 : decode cX12_declare 125 = .ok (.iconst 0, 1) := by decide +kernel
theorem dX12_declare_126 : decode cX12_declare 126 = .ok (.invokevirtual 549, 3) := by decide +kernel
theorem dX12_declare_129 : decode cX12_declare 129 = .ok (.iload_n 2, 1) := by decide +kernel
theorem dX12_declare_130 : decode cX12_declare 130 = .ok (.bipush 15, 2) := by decide +kernel
theorem dX12_declare_132 : decode cX12_declare 132 = .ok (.if_icmp .ne 19, 3) := by decide +kernel
theorem dX12_declare_135 : decode cX12_declare 135 = .ok (.aload_n 0, 1) := by decide +kernel
theorem dX12_declare_136 : decode cX12_declare 136 = .ok (.iload 6, 2) := by decide +kernel
theorem dX12_declare_138 : decode cX12_declare 138 = .ok (.iconst 4, 1) := by decide +kernel
theorem dX12_declare_139 : decode cX12_declare 139 = .ok (.iadd, 1) := by decide +kernel
theorem dX12_declare_140 : decode cX12_declare 140 = .ok (.iload_n 3, 1) := by decide +kernel
theorem dX12_declare_141 : decode cX12_declare 141 = .ok (.iload 4, 2) := by decide +kernel
theorem dX12_declare_143 : decode cX12_declare 143 = .ok (.iload 5, 2) := by decide +kernel
theorem dX12_declare_145 : decode cX12_declare 145 = .ok (.iconst 0, 1) := by decide +kernel
theorem dX12_declare_146 : decode cX12_declare 146 = .ok (.iconst (-1), 1) := by decide +kernel
theorem dX12_declare_147 : decode cX12_declare 147 = .ok (.iconst 0, 1) := by decide +kernel
theorem dX12_declare_148 : decode cX12_declare 148 = .ok (.invokevirtual 549, 3) := by decide +kernel
theorem dX12_declare_151 : decode cX12_declare 151 = .ok (.aload_n 0, 1) := by decide +kernel
theorem dX12_declare_152 : decode cX12_declare 152 = .ok (.iload 6, 2) := by decide +kernel
theorem dX12_declare_154 : decode cX12_declare 154 = .ok (.invokevirtual 553, 3) := by decide +kernel
theorem dX12_declare_157 : decode cX12_declare 157 = .ok (.ireturn, 1) := by decide +kernel
theorem dX12_declareVar_0 : decode cX12_declareVar 0 = .ok (.aload_n 0, 1) := by decide +kernel
theorem dX12_declareVar_1 : decode cX12_declareVar 1 = .ok (.iload_n 1, 1) := by decide +kernel
theorem dX12_declareVar_2 : decode cX12_declareVar 2 = .ok (.invokevirtual 546, 3) := by decide +kernel
theorem dX12_declareVar_5 : decode cX12_declareVar 5 = .ok (.istore 7, 2) := by decide +kernel
theorem dX12_declareVar_7 : decode cX12_declareVar 7 = .ok (.aload_n 0, 1) := by decide +kernel
theorem dX12_declareVar_8 : decode cX12_declareVar 8 = .ok (.iload_n 2, 1) := by decide +kernel
theorem dX12_declareVar_9 : decode cX12_declareVar 9 = .ok (.iconst 0, 1) := by decide +kernel
theorem dX12_declareVar_10 : decode cX12_declareVar 10 = .ok (.bipush 15, 2) := by decide +kernel
theorem dX12_declareVar_12 : decode cX12_declareVar 12 = .ok (.invokevirtual 230, 3) := by decide +kernel
theorem dX12_declareVar_15 : decode cX12_declareVar 15 = .ok (.ifCond .eq 46, 3) := by decide +kernel
theorem dX12_declareVar_18 : decode cX12_declareVar 18 = .ok (.aload_n 0, 1) := by decide +kernel
theorem dX12_declareVar_19 : decode cX12_declareVar 19 = .ok (.iload_n 3, 1) := by decide +kernel
theorem dX12_declareVar_20 : decode cX12_declareVar 20 = .ok (.bipush 12, 2) := by decide +kernel
theorem dX12_declareVar_22 : decode cX12_declareVar 22 = .ok (.bipush 14, 2) := by decide +kernel
theorem dX12_declareVar_24 : decode cX12_declareVar 24 = .ok (.invokevirtual 230, 3) := by decide +kernel
theorem dX12_declareVar_27 : decode cX12_declareVar 27 = .ok (.ifCond .eq 34, 3) := by decide +kernel
theorem dX12_declareVar_30 : decode cX12_declareVar 30 = .ok (.aload_n 0, 1) := by decide +kernel
theorem dX12_declareVar_31 : decode cX12_declareVar 31 = .ok (.iload 4, 2) := by decide +kernel
theorem dX12_declareVar_33 : decode cX12_declareVar 33 = .ok (.iconst (-1), 1) := by decide +kernel
theorem dX12_declareVar_34 : decode cX12_declareVar 34 = .ok (.bipush 6, 2) := by decide +kernel
theorem dX12_declareVar_36 : decode cX12_declareVar 36 = .ok (.invokevirtual 230, 3) := by decide +kernel
theorem dX12_declareVar_39 : decode cX12_declareVar 39 = .ok (.ifCond .eq 22, 3) := by decide +kernel
theorem dX12_declareVar_42 : decode cX12_declareVar 42 = .ok (.aload_n 0, 1) := by decide +kernel
theorem dX12_declareVar_43 : decode cX12_declareVar 43 = .ok (.iload 5, 2) := by decide +kernel
theorem dX12_declareVar_45 : decode cX12_declareVar 45 = .ok (.sipush (-9999), 3) := by decide +kernel
theorem dX12_declareVar_48 : decode cX12_declareVar 48 = .ok (.sipush 9999, 3) := by decide +kernel
theorem dX12_declareVar_51 : decode cX12_declareVar 51 = .ok (.invokevirtual 230, 3) := by decide +kernel
theorem dX12_declareVar_54 : decode cX12_declareVar 54 = .ok (.ifCond .eq 7, 3) := by decide +kernel
theorem dX12_declareVar_57 : decode cX12_declareVar 57 = .ok (.iconst 1, 1) := by decide +kernel
theorem dX12_declareVar_58 : decode cX12_declareVar 58 = .ok (.goto 4, 3) := by decide +kernel
theorem dX12_declareVar_61 : decode cX12_declareVar 61 = .ok (.iconst 0, 1) := by decide +kernel
theorem dX12_declareVar_62 : decode cX12_declareVar 62 = .ok (.istore 8, 2) := by decide +kernel
theorem dX12_declareVar_64 : decode cX12_declareVar 64 = .ok (.aload_n 0, 1) := by decide +kernel
theorem dX12_declareVar_65 : decode cX12_declareVar 65 = .ok (.iload 7, 2) := by decide +kernel
theorem dX12_declareVar_67 : decode cX12_declareVar 67 = .ok (.ifCond .ge 7, 3) := by decide +kernel
theorem dX12_declareVar_70 : decode cX12_declareVar 70 = .ok (.iconst 1, 1) := by decide +kernel
theorem dX12_declareVar_71 : decode cX12_declareVar 71 = .ok (.goto 13, 3) := by decide +kernel
theorem dX12_declareVar_74 : decode cX12_declareVar 74 = .ok (.iload 8, 2) := by decide +kernel
theorem dX12_declareVar_76 : decode cX12_declareVar 76 = .ok (.ifCond .eq 7, 3) := by decide +kernel
theorem dX12_declareVar_79 : decode cX12_declareVar 79 = .ok (.iconst 0, 1) := by decide +kernel
theorem dX12_declareVar_80 : decode cX12_declareVar 80 = .ok (.goto 4, 3) := by decide +kernel
theorem dX12_declareVar_83 : decode cX12_declareVar 83 = .ok (.iconst 2, 1) := by decide +kernel
theorem dX12_declareVar_84 : decode cX12_declareVar 84 = .ok (.invokevirtual 512, 3) := by decide +kernel
theorem dX12_declareVar_87 : decode cX12_declareVar 87 = .ok (.ifCond .eq 5, 3) := by decide +kernel
theorem dX12_declareVar_90 : decode cX12_declareVar 90 = .ok (.iconst (-1), 1) := by decide +kernel
theorem dX12_declareVar_91 : decode cX12_declareVar 91 = .ok (.ireturn, 1) := by decide +kernel
theorem dX12_declareVar_92 : decode cX12_declareVar 92 = .ok (.aload_n 0, 1) := by decide +kernel
theorem dX12_declareVar_93 : decode cX12_declareVar 93 = .ok (.iload 7, 2) := by decide +kernel
theorem dX12_declareVar_95 : decode cX12_declareVar 95 = .ok (.iload_n 2, 1) := by decide +kernel
theorem dX12_declareVar_96 : decode cX12_declareVar 96 = .ok (.bipush 15, 2) := by decide +kernel
theorem dX12_declareVar_98 : decode cX12_declareVar 98 = .ok (.if_icmp .ne 7, 3) := by decide +kernel
theorem dX12_declareVar_101 : decode cX12_declareVar 101 = .ok (.iconst 3, 1) := by decide +kernel
theorem dX12_declareVar_102 : decode cX12_declareVar 102 = .ok (.goto 4, 3) := by decide +kernel
theorem dX12_declareVar_105 : decode cX12_declareVar 105 = .ok (.iload_n 2, 1) := by decide +kernel
theorem dX12_declareVar_106 : decode cX12_declareVar 106 = .ok (.iadd, 1) := by decide +kernel
theorem dX12_declareVar_107 : decode cX12_declareVar 107 = .ok (.bipush 11, 2) := by decide +kernel
theorem dX12_declareVar_109 : decode cX12_declareVar 109 = .ok (.iconst 0, 1) := by decide +kernel
theorem dX12_declareVar_110 : decode cX12_declareVar 110 = .ok (.iload 6, 2) := by decide +kernel
theorem dX12_declareVar_112 : decode cX12_declareVar 112 = .ok (.iload_n 3, 1) := by decide +kernel
theorem dX12_declareVar_113 : decode cX12_declareVar 113 = .ok (.iload 4, 2) := by decide +kernel
theorem dX12_declareVar_115 : decode cX12_declareVar 115 = .ok (.iload 5, 2) := by decide +kernel
theorem dX12_declareVar_117 : decode cX12_declareVar 117 = .ok (.invokevirtual 549, 3) := by decide +kernel
theorem dX12_declareVar_120 : decode cX12_declareVar 120 = .ok (.iload_n 2, 1) := by decide +kernel
theorem dX12_declareVar_121 : decode cX12_declareVar 121 = .ok (.bipush 15, 2) := by decide +kernel
theorem dX12_declareVar_123 : decode cX12_declareVar 123 = .ok (.if_icmp .ne 21, 3) := by decide +kernel
theorem dX12_declareVar_126 : decode cX12_declareVar 126 = .ok (.aload_n 0, 1) := by decide +kernel
theorem dX12_declareVar_127 : decode cX12_declareVar 127 = .ok (.iload 7, 2) := by decide +kernel
theorem dX12_declareVar_129 : decode cX12_declareVar 129 = .ok (.iconst 4, 1) := by decide +kernel
theorem dX12_declareVar_130 : decode cX12_declareVar 130 = .ok (.iadd, 1) := by decide +kernel
theorem dX12_declareVar_131 : decode cX12_declareVar 131 = .ok (.bipush 11, 2) := by decide +kernel
theorem dX12_declareVar_133 : decode cX12_declareVar 133 = .ok (.iconst 0, 1) := by decide +kernel
theorem dX12_declareVar_134 : decode cX12_declareVar 134 = .ok (.iload 6, 2) := by decide +kernel
theorem dX12_declareVar_136 : decode cX12_declareVar 136 = .ok (.iload_n 3, 1) := by decide +kernel
theorem dX12_declareVar_137 : decode cX12_declareVar 137 = .ok (.iload 4, 2) := by decide +kernel
theorem dX12_declareVar_139 : decode cX12_declareVar 139 = .ok (.iload 5, 2) := by decide +kernel
theorem dX12_declareVar_141 : decode cX12_declareVar 141 = .ok (.invokevirtual 549, 3) := by decide +kernel
theorem dX12_declareVar_144 : decode cX12_declareVar 144 = .ok (.aload_n 0, 1) := by decide +kernel
theorem dX12_declareVar_145 : decode cX12_declareVar 145 = .ok (.iload 7, 2) := by decide +kernel
theorem dX12_declareVar_147 : decode cX12_declareVar 147 = .ok (.invokevirtual 553, 3) := by decide +kernel
theorem dX12_declareVar_150 : decode cX12_declareVar 150 = .ok (.ireturn, 1) := by decide +kernel
theorem dX12_undeclare_0 : decode cX12_undeclare 0 = .ok (.aload_n 0, 1) := by decide +kernel
theorem dX12_undeclare_1 : decode cX12_undeclare 1 = .ok (.iload_n 1, 1) := by decide +kernel
theorem dX12_undeclare_2 : decode cX12_undeclare 2 = .ok (.invokevirtual 546, 3) := by decide +kernel
theorem dX12_undeclare_5 : decode cX12_undeclare 5 = .ok (.istore_n 3, 1) := by decide +kernel
theorem dX12_undeclare_6 : decode cX12_undeclare 6 = .ok (.aload_n 0, 1) := by decide +kernel
theorem dX12_undeclare_7 : decode cX12_undeclare 7 = .ok (.iload_n 3, 1) := by decide +kernel
theorem dX12_undeclare_8 : decode cX12_undeclare 8 = .ok (.ifCond .ge 7, 3) := by decide +kernel
theorem dX12_undeclare_11 : decode cX12_undeclare 11 = .ok (.iconst 1, 1) := by decide +kernel
theorem dX12_undeclare_12 : decode cX12_undeclare 12 = .ok (.goto 19, 3) := by decide +kernel
theorem dX12_undeclare_15 : decode cX12_undeclare 15 = .ok (.aload_n 0, 1) := by decide +kernel
theorem dX12_undeclare_16 : decode cX12_undeclare 16 = .ok (.iload_n 2, 1) := by decide +kernel
theorem dX12_undeclare_17 : decode cX12_undeclare 17 = .ok (.iconst 0, 1) := by decide +kernel
theorem dX12_undeclare_18 : decode cX12_undeclare 18 = .ok (.bipush 15, 2) := by decide +kernel
theorem dX12_undeclare_20 : decode cX12_undeclare 20 = .ok (.invokevirtual 230, 3) := by decide +kernel
theorem dX12_undeclare_23 : decode cX12_undeclare 23 = .ok (.ifCond .eq 7, 3) := by decide +kernel
theorem dX12_undeclare_26 : decode cX12_undeclare 26 = .ok (.iconst 0, 1) := by decide +kernel
theorem dX12_undeclare_27 : decode cX12_undeclare 27 = .ok (.goto 4, 3) := by decide +kernel
theorem dX12_undeclare_30 : decode cX12_undeclare 30 = .ok (.iconst 2, 1) := by decide +kernel
theorem dX12_undeclare_31 : decode cX12_undeclare 31 = .ok (.invokevirtual 512, 3) := by decide +kernel
theorem dX12_undeclare_34 : decode cX12_undeclare 34 = .ok (.ifCond .eq 5, 3) := by decide +kernel
theorem dX12_undeclare_37 : decode cX12_undeclare 37 = .ok (.iconst (-1), 1) := by decide +kernel
theorem dX12_undeclare_38 : decode cX12_undeclare 38 = .ok (.ireturn, 1) := by decide +kernel
theorem dX12_undeclare_39 : decode cX12_undeclare 39 = .ok (.aload_n 0, 1) := by decide +kernel
theorem dX12_undeclare_40 : decode cX12_undeclare 40 = .ok (.getfield 109, 3) := by decide +kernel
theorem dX12_undeclare_43 : decode cX12_undeclare 43 = .ok (.iload_n 3, 1) := by decide +kernel
theorem dX12_undeclare_44 : decode cX12_undeclare 44 = .ok (.iload_n 2, 1) := by decide +kernel
theorem dX12_undeclare_45 : decode cX12_undeclare 45 = .ok (.bipush 15, 2) := by decide +kernel
theorem dX12_undeclare_47 : decode cX12_undeclare 47 = .ok (.if_icmp .ne 7, 3) := by decide +kernel
theorem dX12_undeclare_50 : decode cX12_undeclare 50 = .ok (.iconst 3, 1) := by decide +kernel
theorem dX12_undeclare_51 : decode cX12_undeclare 51 = .ok (.goto 4, 3) := by decide +kernel
theorem dX12_undeclare_54 : decode cX12_undeclare 54 = .ok (.iload_n 2, 1) := by decide +kernel
theorem dX12_undeclare_55 : decode cX12_undeclare 55 = .ok (.iadd, 1) := by decide +kernel
theorem dX12_undeclare_56 : decode cX12_undeclare 56 = .ok (.iconst (-1), 1) := by decide +kernel
theorem dX12_undeclare_57 : decode cX12_undeclare 57 = .ok (.iastore, 1) := by decide +kernel
theorem dX12_undeclare_58 : decode cX12_undeclare 58 = .ok (.iload_n 2, 1) := by decide +kernel
theorem dX12_undeclare_59 : decode cX12_undeclare 59 = .ok (.bipush 15, 2) := by decide +kernel
theorem dX12_undeclare_61 : decode cX12_undeclare 61 = .ok (.if_icmp .ne 12, 3) := by decide +kernel
theorem dX12_undeclare_64 : decode cX12_undeclare 64 = .ok (.aload_n 0, 1) := by decide +kernel
theorem dX12_undeclare_65 : decode cX12_undeclare 65 = .ok (.getfield 109, 3) := by decide +kernel
theorem dX12_undeclare_68 : decode cX12_undeclare 68 = .ok (.iload_n 3, 1) := by decide +kernel
theorem dX12_undeclare_69 : decode cX12_undeclare 69 = .ok (.iconst 4, 1) := by decide +kernel
theorem dX12_undeclare_70 : decode cX12_undeclare 70 = .ok (.iadd, 1) := by decide +kernel
theorem dX12_undeclare_71 : decode cX12_undeclare 71 = .ok (.iconst (-1), 1) := by decide +kernel
theorem dX12_undeclare_72 : decode cX12_undeclare 72 = .ok (.iastore, 1) := by decide +kernel
theorem dX12_undeclare_73 : decode cX12_undeclare 73 = .ok (.aload_n 0, 1) := by decide +kernel
theorem dX12_undeclare_74 : decode cX12_undeclare 74 = .ok (.iload_n 3, 1) := by decide +kernel
theorem dX12_undeclare_75 : decode cX12_undeclare 75 = .ok (.invokevirtual 553, 3) := by decide +kernel
theorem dX12_undeclare_78 : decode cX12_undeclare 78 = .ok (.ireturn, 1) := by decide +kernel
theorem dX12_setWidth_0 : decode cX12_setWidth 0 = .ok (.aload_n 0, 1) := by decide +kernel
theorem dX12_setWidth_1 : decode cX12_setWidth 1 = .ok (.aload_n 0, 1) := by decide +kernel
theorem dX12_setWidth_2 : decode cX12_setWidth 2 = .ok (.iload_n 1, 1) := by decide +kernel
theorem dX12_setWidth_3 : decode cX12_setWidth 3 = .ok (.iconst 0, 1) := by decide +kernel
theorem dX12_setWidth_4 : decode cX12_setWidth 4 = .ok (.sipush 9999, 3) := by decide +kernel
theorem dX12_setWidth_7 : decode cX12_setWidth 7 = .ok (.invokevirtual 230, 3) := by decide +kernel
theorem dX12_setWidth_10 : decode cX12_setWidth 10 = .ok (.ifCond .eq 7, 3) := by decide +kernel
theorem dX12_setWidth_13 : decode cX12_setWidth 13 = .ok (.iconst 0, 1) := by decide +kernel
theorem dX12_setWidth_14 : decode cX12_setWidth 14 = .ok (.goto 4, 3) := by decide +kernel
theorem dX12_setWidth_17 : decode cX12_setWidth 17 = .ok (.iconst 1, 1) := by decide +kernel
theorem dX12_setWidth_18 : decode cX12_setWidth 18 = .ok (.invokevirtual 512, 3) := by decide +kernel
theorem dX12_setWidth_21 : decode cX12_setWidth 21 = .ok (.ifCond .eq 5, 3) := by decide +kernel
theorem dX12_setWidth_24 : decode cX12_setWidth 24 = .ok (.iconst (-1), 1) := by decide +kernel
theorem dX12_setWidth_25 : decode cX12_setWidth 25 = .ok (.ireturn, 1) := by decide +kernel
theorem dX12_setWidth_26 : decode cX12_setWidth 26 = .ok (.aload_n 0, 1) := by decide +kernel
theorem dX12_setWidth_27 : decode cX12_setWidth 27 = .ok (.getfield 221, 3) := by decide +kernel
theorem dX12_setWidth_30 : decode cX12_setWidth 30 = .ok (.istore_n 2, 1) := by decide +kernel
theorem dX12_setWidth_31 : decode cX12_setWidth 31 = .ok (.aload_n 0, 1) := by decide +kernel
theorem dX12_setWidth_32 : decode cX12_setWidth 32 = .ok (.iload_n 1, 1) := by decide +kernel
theorem dX12_setWidth_33 : decode cX12_setWidth 33 = .ok (.putfield 221, 3) := by decide +kernel
theorem dX12_setWidth_36 : decode cX12_setWidth 36 = .ok (.aload_n 0, 1) := by decide +kernel
theorem dX12_setWidth_37 : decode cX12_setWidth 37 = .ok (.invokevirtual 509, 3) := by decide +kernel
theorem dX12_setWidth_40 : decode cX12_setWidth 40 = .ok (.iload_n 2, 1) := by decide +kernel
theorem dX12_setWidth_41 : decode cX12_setWidth 41 = .ok (.ireturn, 1) := by decide +kernel
theorem dX12_told_0 : decode cX12_told 0 = .ok (.iconst 3, 1) := by decide +kernel
theorem dX12_told_1 : decode cX12_told 1 = .ok (.bipush 30, 2) := by decide +kernel
theorem dX12_told_3 : decode cX12_told 3 = .ok (.iload_n 3, 1) := by decide +kernel
theorem dX12_told_4 : decode cX12_told 4 = .ok (.imul, 1) := by decide +kernel
theorem dX12_told_5 : decode cX12_told 5 = .ok (.iload_n 1, 1) := by decide +kernel
theorem dX12_told_6 : decode cX12_told 6 = .ok (.iadd, 1) := by decide +kernel
theorem dX12_told_7 : decode cX12_told 7 = .ok (.imul, 1) := by decide +kernel
theorem dX12_told_8 : decode cX12_told 8 = .ok (.iload_n 2, 1) := by decide +kernel
theorem dX12_told_9 : decode cX12_told 9 = .ok (.iadd, 1) := by decide +kernel
theorem dX12_told_10 : decode cX12_told 10 = .ok (.bipush 12, 2) := by decide +kernel
theorem dX12_told_12 : decode cX12_told 12 = .ok (.isub, 1) := by decide +kernel
theorem dX12_told_13 : decode cX12_told 13 = .ok (.istore 4, 2) := by decide +kernel
theorem dX12_told_15 : decode cX12_told 15 = .ok (.iload_n 2, 1) := by decide +kernel
theorem dX12_told_16 : decode cX12_told 16 = .ok (.bipush 12, 2) := by decide +kernel
theorem dX12_told_18 : decode cX12_told 18 = .ok (.if_icmp .ge 22, 3) := by decide +kernel
theorem dX12_told_21 : decode cX12_told 21 = .ok (.aload_n 0, 1) := by decide +kernel
theorem dX12_told_22 : decode cX12_told 22 = .ok (.getfield 127, 3) := by decide +kernel
theorem dX12_told_25 : decode cX12_told 25 = .ok (.bipush 12, 2) := by decide +kernel
theorem dX12_told_27 : decode cX12_told 27 = .ok (.bipush 30, 2) := by decide +kernel
theorem dX12_told_29 : decode cX12_told 29 = .ok (.iload_n 3, 1) := by decide +kernel
theorem dX12_told_30 : decode cX12_told 30 = .ok (.imul, 1) := by decide +kernel
theorem dX12_told_31 : decode cX12_told 31 = .ok (.iload_n 1, 1) := by decide +kernel
theorem dX12_told_32 : decode cX12_told 32 = .ok (.iadd, 1) := by decide +kernel
theorem dX12_told_33 : decode cX12_told 33 = .ok (.imul, 1) := by decide +kernel
theorem dX12_told_34 : decode cX12_told 34 = .ok (.iload_n 2, 1) := by decide +kernel
theorem dX12_told_35 : decode cX12_told 35 = .ok (.iadd, 1) := by decide +kernel
theorem dX12_told_36 : decode cX12_told 36 = .ok (.iaload, 1) := by decide +kernel
theorem dX12_told_37 : decode cX12_told 37 = .ok (.goto 38, 3) := by decide +kernel
theorem dX12_told_40 : decode cX12_told 40 = .ok (.aload_n 0, 1) := by decide +kernel
theorem dX12_told_41 : decode cX12_told 41 = .ok (.getfield 130, 3) := by decide +kernel
theorem dX12_told_44 : decode cX12_told 44 = .ok (.iload 4, 2) := by decide +kernel
theorem dX12_told_46 : decode cX12_told 46 = .ok (.iaload, 1) := by decide +kernel
theorem dX12_told_47 : decode cX12_told 47 = .ok (.ifCond .ge 9, 3) := by decide +kernel
theorem dX12_told_50 : decode cX12_told 50 = .ok (.ldc_w 556, 3) := by decide +kernel
theorem dX12_told_53 : decode cX12_told 53 = .ok (.goto 22, 3) := by decide +kernel
theorem dX12_told_56 : decode cX12_told 56 = .ok (.ldc_w 369, 3) := by decide +kernel
theorem dX12_told_59 : decode cX12_told 59 = .ok (.aload_n 0, 1) := by decide +kernel
theorem dX12_told_60 : decode cX12_told 60 = .ok (.getfield 130, 3) := by decide +kernel
theorem dX12_told_63 : decode cX12_told 63 = .ok (.iload 4, 2) := by decide +kernel
theorem dX12_told_65 : decode cX12_told 65 = .ok (.iaload, 1) := by decide +kernel
theorem dX12_told_66 : decode cX12_told 66 = .ok (.imul, 1) := by decide +kernel
theorem dX12_told_67 : decode cX12_told 67 = .ok (.aload_n 0, 1) := by decide +kernel
theorem dX12_told_68 : decode cX12_told 68 = .ok (.getfield 133, 3) := by decide +kernel
theorem dX12_told_71 : decode cX12_told 71 = .ok (.iload 4, 2) := by decide +kernel
theorem dX12_told_73 : decode cX12_told 73 = .ok (.iaload, 1) := by decide +kernel
theorem dX12_told_74 : decode cX12_told 74 = .ok (.iadd, 1) := by decide +kernel
theorem dX12_told_75 : decode cX12_told 75 = .ok (.ireturn, 1) := by decide +kernel
theorem dX12_value_0 : decode cX12_value 0 = .ok (.aload_n 0, 1) := by decide +kernel
theorem dX12_value_1 : decode cX12_value 1 = .ok (.aload_n 0, 1) := by decide +kernel
theorem dX12_value_2 : decode cX12_value 2 = .ok (.iload_n 1, 1) := by decide +kernel
theorem dX12_value_3 : decode cX12_value 3 = .ok (.invokevirtual 234, 3) := by decide +kernel
theorem dX12_value_6 : decode cX12_value 6 = .ok (.ifCond .ne 7, 3) := by decide +kernel
theorem dX12_value_9 : decode cX12_value 9 = .ok (.iconst 1, 1) := by decide +kernel
theorem dX12_value_10 : decode cX12_value 10 = .ok (.goto 31, 3) := by decide +kernel
theorem dX12_value_13 : decode cX12_value 13 = .ok (.aload_n 0, 1) := by decide +kernel
theorem dX12_value_14 : decode cX12_value 14 = .ok (.iload_n 2, 1) := by decide +kernel
theorem dX12_value_15 : decode cX12_value 15 = .ok (.iconst 0, 1) := by decide +kernel
theorem dX12_value_16 : decode cX12_value 16 = .ok (.bipush 14, 2) := by decide +kernel
theorem dX12_value_18 : decode cX12_value 18 = .ok (.invokevirtual 230, 3) := by decide +kernel
theorem dX12_value_21 : decode cX12_value 21 = .ok (.ifCond .ne 7, 3) := by decide +kernel
theorem dX12_value_24 : decode cX12_value 24 = .ok (.iconst 2, 1) := by decide +kernel
theorem dX12_value_25 : decode cX12_value 25 = .ok (.goto 16, 3) := by decide +kernel
theorem dX12_value_28 : decode cX12_value 28 = .ok (.aload_n 0, 1) := by decide +kernel
theorem dX12_value_29 : decode cX12_value 29 = .ok (.iload_n 1, 1) := by decide +kernel
theorem dX12_value_30 : decode cX12_value 30 = .ok (.invokevirtual 245, 3) := by decide +kernel
theorem dX12_value_33 : decode cX12_value 33 = .ok (.ifCond .ne 7, 3) := by decide +kernel
theorem dX12_value_36 : decode cX12_value 36 = .ok (.iconst 3, 1) := by decide +kernel
theorem dX12_value_37 : decode cX12_value 37 = .ok (.goto 4, 3) := by decide +kernel
theorem dX12_value_40 : decode cX12_value 40 = .ok (.iconst 0, 1) := by decide +kernel
theorem dX12_value_41 : decode cX12_value 41 = .ok (.invokevirtual 512, 3) := by decide +kernel
theorem dX12_value_44 : decode cX12_value 44 = .ok (.ifCond .eq 5, 3) := by decide +kernel
theorem dX12_value_47 : decode cX12_value 47 = .ok (.iconst (-1), 1) := by decide +kernel
theorem dX12_value_48 : decode cX12_value 48 = .ok (.ireturn, 1) := by decide +kernel
theorem dX12_value_49 : decode cX12_value 49 = .ok (.aload_n 0, 1) := by decide +kernel
theorem dX12_value_50 : decode cX12_value 50 = .ok (.invokevirtual 557, 3) := by decide +kernel
theorem dX12_value_53 : decode cX12_value 53 = .ok (.aload_n 0, 1) := by decide +kernel
theorem dX12_value_54 : decode cX12_value 54 = .ok (.iload_n 1, 1) := by decide +kernel
theorem dX12_value_55 : decode cX12_value 55 = .ok (.iload_n 2, 1) := by decide +kernel
theorem dX12_value_56 : decode cX12_value 56 = .ok (.iconst 0, 1) := by decide +kernel
theorem dX12_value_57 : decode cX12_value 57 = .ok (.invokevirtual 560, 3) := by decide +kernel
theorem dX12_value_60 : decode cX12_value 60 = .ok (.ireturn, 1) := by decide +kernel
theorem dX12_size_0 : decode cX12_size 0 = .ok (.aload_n 0, 1) := by decide +kernel
theorem dX12_size_1 : decode cX12_size 1 = .ok (.aload_n 0, 1) := by decide +kernel
theorem dX12_size_2 : decode cX12_size 2 = .ok (.iload_n 1, 1) := by decide +kernel
theorem dX12_size_3 : decode cX12_size 3 = .ok (.invokevirtual 234, 3) := by decide +kernel
theorem dX12_size_6 : decode cX12_size 6 = .ok (.ifCond .ne 7, 3) := by decide +kernel
theorem dX12_size_9 : decode cX12_size 9 = .ok (.iconst 1, 1) := by decide +kernel
theorem dX12_size_10 : decode cX12_size 10 = .ok (.goto 16, 3) := by decide +kernel
theorem dX12_size_13 : decode cX12_size 13 = .ok (.aload_n 0, 1) := by decide +kernel
theorem dX12_size_14 : decode cX12_size 14 = .ok (.iload_n 1, 1) := by decide +kernel
theorem dX12_size_15 : decode cX12_size 15 = .ok (.invokevirtual 245, 3) := by decide +kernel
theorem dX12_size_18 : decode cX12_size 18 = .ok (.ifCond .ne 7, 3) := by decide +kernel
theorem dX12_size_21 : decode cX12_size 21 = .ok (.iconst 2, 1) := by decide +kernel
theorem dX12_size_22 : decode cX12_size 22 = .ok (.goto 4, 3) := by decide +kernel
theorem dX12_size_25 : decode cX12_size 25 = .ok (.iconst 0, 1) := by decide +kernel
theorem dX12_size_26 : decode cX12_size 26 = .ok (.invokevirtual 512, 3) := by decide +kernel
theorem dX12_size_29 : decode cX12_size 29 = .ok (.ifCond .eq 5, 3) := by decide +kernel
theorem dX12_size_32 : decode cX12_size 32 = .ok (.iconst (-1), 1) := by decide +kernel
theorem dX12_size_33 : decode cX12_size 33 = .ok (.ireturn, 1) := by decide +kernel
theorem dX12_size_34 : decode cX12_size 34 = .ok (.aload_n 0, 1) := by decide +kernel
theorem dX12_size_35 : decode cX12_size 35 = .ok (.invokevirtual 557, 3) := by decide +kernel
theorem dX12_size_38 : decode cX12_size 38 = .ok (.aload_n 0, 1) := by decide +kernel
theorem dX12_size_39 : decode cX12_size 39 = .ok (.getfield 136, 3) := by decide +kernel
theorem dX12_size_42 : decode cX12_size 42 = .ok (.iload_n 1, 1) := by decide +kernel
theorem dX12_size_43 : decode cX12_size 43 = .ok (.iaload, 1) := by decide +kernel
theorem dX12_size_44 : decode cX12_size 44 = .ok (.ireturn, 1) := by decide +kernel
theorem dX12_seen_0 : decode cX12_seen 0 = .ok (.aload_n 0, 1) := by decide +kernel
theorem dX12_seen_1 : decode cX12_seen 1 = .ok (.aload_n 0, 1) := by decide +kernel
theorem dX12_seen_2 : decode cX12_seen 2 = .ok (.iload_n 1, 1) := by decide +kernel
theorem dX12_seen_3 : decode cX12_seen 3 = .ok (.invokevirtual 234, 3) := by decide +kernel
theorem dX12_seen_6 : decode cX12_seen 6 = .ok (.ifCond .ne 7, 3) := by decide +kernel
theorem dX12_seen_9 : decode cX12_seen 9 = .ok (.iconst 1, 1) := by decide +kernel
theorem dX12_seen_10 : decode cX12_seen 10 = .ok (.goto 30, 3) := by decide +kernel
theorem dX12_seen_13 : decode cX12_seen 13 = .ok (.aload_n 0, 1) := by decide +kernel
theorem dX12_seen_14 : decode cX12_seen 14 = .ok (.iload_n 2, 1) := by decide +kernel
theorem dX12_seen_15 : decode cX12_seen 15 = .ok (.iconst 0, 1) := by decide +kernel
theorem dX12_seen_16 : decode cX12_seen 16 = .ok (.iconst 4, 1) := by decide +kernel
theorem dX12_seen_17 : decode cX12_seen 17 = .ok (.invokevirtual 230, 3) := by decide +kernel
theorem dX12_seen_20 : decode cX12_seen 20 = .ok (.ifCond .ne 7, 3) := by decide +kernel
theorem dX12_seen_23 : decode cX12_seen 23 = .ok (.iconst 2, 1) := by decide +kernel
theorem dX12_seen_24 : decode cX12_seen 24 = .ok (.goto 16, 3) := by decide +kernel
theorem dX12_seen_27 : decode cX12_seen 27 = .ok (.aload_n 0, 1) := by decide +kernel
theorem dX12_seen_28 : decode cX12_seen 28 = .ok (.iload_n 1, 1) := by decide +kernel
theorem dX12_seen_29 : decode cX12_seen 29 = .ok (.invokevirtual 245, 3) := by decide +kernel
theorem dX12_seen_32 : decode cX12_seen 32 = .ok (.ifCond .ne 7, 3) := by decide +kernel
theorem dX12_seen_35 : decode cX12_seen 35 = .ok (.iconst 3, 1) := by decide +kernel
theorem dX12_seen_36 : decode cX12_seen 36 = .ok (.goto 4, 3) := by decide +kernel
theorem dX12_seen_39 : decode cX12_seen 39 = .ok (.iconst 0, 1) := by decide +kernel
theorem dX12_seen_40 : decode cX12_seen 40 = .ok (.invokevirtual 512, 3) := by decide +kernel
theorem dX12_seen_43 : decode cX12_seen 43 = .ok (.ifCond .eq 5, 3) := by decide +kernel
theorem dX12_seen_46 : decode cX12_seen 46 = .ok (.iconst (-1), 1) := by decide +kernel
theorem dX12_seen_47 : decode cX12_seen 47 = .ok (.ireturn, 1) := by decide +kernel
theorem dX12_seen_48 : decode cX12_seen 48 = .ok (.aload_n 0, 1) := by decide +kernel
theorem dX12_seen_49 : decode cX12_seen 49 = .ok (.invokevirtual 557, 3) := by decide +kernel
theorem dX12_seen_52 : decode cX12_seen 52 = .ok (.aload_n 0, 1) := by decide +kernel
theorem dX12_seen_53 : decode cX12_seen 53 = .ok (.iload_n 1, 1) := by decide +kernel
theorem dX12_seen_54 : decode cX12_seen 54 = .ok (.iload_n 2, 1) := by decide +kernel
theorem dX12_seen_55 : decode cX12_seen 55 = .ok (.invokevirtual 457, 3) := by decide +kernel
theorem dX12_seen_58 : decode cX12_seen 58 = .ok (.ireturn, 1) := by decide +kernel
theorem dX12_made_0 : decode cX12_made 0 = .ok (.aload_n 0, 1) := by decide +kernel
theorem dX12_made_1 : decode cX12_made 1 = .ok (.aload_n 0, 1) := by decide +kernel
theorem dX12_made_2 : decode cX12_made 2 = .ok (.iload_n 1, 1) := by decide +kernel
theorem dX12_made_3 : decode cX12_made 3 = .ok (.invokevirtual 234, 3) := by decide +kernel
theorem dX12_made_6 : decode cX12_made 6 = .ok (.ifCond .ne 7, 3) := by decide +kernel
theorem dX12_made_9 : decode cX12_made 9 = .ok (.iconst 1, 1) := by decide +kernel
theorem dX12_made_10 : decode cX12_made 10 = .ok (.goto 16, 3) := by decide +kernel
theorem dX12_made_13 : decode cX12_made 13 = .ok (.aload_n 0, 1) := by decide +kernel
theorem dX12_made_14 : decode cX12_made 14 = .ok (.iload_n 1, 1) := by decide +kernel
theorem dX12_made_15 : decode cX12_made 15 = .ok (.invokevirtual 245, 3) := by decide +kernel
theorem dX12_made_18 : decode cX12_made 18 = .ok (.ifCond .ne 7, 3) := by decide +kernel
theorem dX12_made_21 : decode cX12_made 21 = .ok (.iconst 2, 1) := by decide +kernel
theorem dX12_made_22 : decode cX12_made 22 = .ok (.goto 4, 3) := by decide +kernel
theorem dX12_made_25 : decode cX12_made 25 = .ok (.iconst 0, 1) := by decide +kernel
theorem dX12_made_26 : decode cX12_made 26 = .ok (.invokevirtual 512, 3) := by decide +kernel
theorem dX12_made_29 : decode cX12_made 29 = .ok (.ifCond .eq 5, 3) := by decide +kernel
theorem dX12_made_32 : decode cX12_made 32 = .ok (.iconst (-1), 1) := by decide +kernel
theorem dX12_made_33 : decode cX12_made 33 = .ok (.ireturn, 1) := by decide +kernel
theorem dX12_made_34 : decode cX12_made 34 = .ok (.aload_n 0, 1) := by decide +kernel
theorem dX12_made_35 : decode cX12_made 35 = .ok (.invokevirtual 557, 3) := by decide +kernel
theorem dX12_made_38 : decode cX12_made 38 = .ok (.iconst 0, 1) := by decide +kernel
theorem dX12_made_39 : decode cX12_made 39 = .ok (.istore_n 2, 1) := by decide +kernel
theorem dX12_made_40 : decode cX12_made 40 = .ok (.iconst 0, 1) := by decide +kernel
theorem dX12_made_41 : decode cX12_made 41 = .ok (.istore_n 3, 1) := by decide +kernel
theorem dX12_made_42 : decode cX12_made 42 = .ok (.iconst (-1), 1) := by decide +kernel
theorem dX12_made_43 : decode cX12_made 43 = .ok (.istore 4, 2) := by decide +kernel
theorem dX12_made_45 : decode cX12_made 45 = .ok (.iconst 0, 1) := by decide +kernel
theorem dX12_made_46 : decode cX12_made 46 = .ok (.istore 5, 2) := by decide +kernel
theorem dX12_made_48 : decode cX12_made 48 = .ok (.iload 5, 2) := by decide +kernel
theorem dX12_made_50 : decode cX12_made 50 = .ok (.aload_n 0, 1) := by decide +kernel
theorem dX12_made_51 : decode cX12_made 51 = .ok (.getfield 271, 3) := by decide +kernel
theorem dX12_made_54 : decode cX12_made 54 = .ok (.if_icmp .ge 166, 3) := by decide +kernel
theorem dX12_made_57 : decode cX12_made 57 = .ok (.aload_n 0, 1) := by decide +kernel
theorem dX12_made_58 : decode cX12_made 58 = .ok (.getfield 193, 3) := by decide +kernel
theorem dX12_made_61 : decode cX12_made 61 = .ok (.iload 5, 2) := by decide +kernel
theorem dX12_made_63 : decode cX12_made 63 = .ok (.iaload, 1) := by decide +kernel
theorem dX12_made_64 : decode cX12_made 64 = .ok (.istore 6, 2) := by decide +kernel
theorem dX12_made_66 : decode cX12_made 66 = .ok (.aload_n 0, 1) := by decide +kernel
theorem dX12_made_67 : decode cX12_made 67 = .ok (.getfield 127, 3) := by decide +kernel
theorem dX12_made_70 : decode cX12_made 70 = .ok (.bipush 12, 2) := by decide +kernel
theorem dX12_made_72 : decode cX12_made 72 = .ok (.iload 6, 2) := by decide +kernel
theorem dX12_made_74 : decode cX12_made 74 = .ok (.imul, 1) := by decide +kernel
theorem dX12_made_75 : decode cX12_made 75 = .ok (.iconst 5, 1) := by decide +kernel
theorem dX12_made_76 : decode cX12_made 76 = .ok (.iadd, 1) := by decide +kernel
theorem dX12_made_77 : decode cX12_made 77 = .ok (.iaload, 1) := by decide +kernel
theorem dX12_made_78 : decode cX12_made 78 = .ok (.ifCond .eq 28, 3) := by decide +kernel
theorem dX12_made_81 : decode cX12_made 81 = .ok (.aload_n 0, 1) := by decide +kernel
theorem dX12_made_82 : decode cX12_made 82 = .ok (.getfield 196, 3) := by decide +kernel
theorem dX12_made_85 : decode cX12_made 85 = .ok (.iload 6, 2) := by decide +kernel
theorem dX12_made_87 : decode cX12_made 87 = .ok (.iaload, 1) := by decide +kernel
theorem dX12_made_88 : decode cX12_made 88 = .ok (.ifCond .lt 22, 3) := by decide +kernel
theorem dX12_made_91 : decode cX12_made 91 = .ok (.aload_n 0, 1) := by decide +kernel
theorem dX12_made_92 : decode cX12_made 92 = .ok (.iload_n 3, 1) := by decide +kernel
theorem dX12_made_93 : decode cX12_made 93 = .ok (.aload_n 0, 1) := by decide +kernel
theorem dX12_made_94 : decode cX12_made 94 = .ok (.getfield 196, 3) := by decide +kernel
theorem dX12_made_97 : decode cX12_made 97 = .ok (.iload 6, 2) := by decide +kernel
theorem dX12_made_99 : decode cX12_made 99 = .ok (.iaload, 1) := by decide +kernel
theorem dX12_made_100 : decode cX12_made 100 = .ok (.invokevirtual 288, 3) := by decide +kernel
theorem dX12_made_103 : decode cX12_made 103 = .ok (.ifCond .eq 7, 3) := by decide +kernel
theorem dX12_made_106 : decode cX12_made 106 = .ok (.iconst 1, 1) := by decide +kernel
theorem dX12_made_107 : decode cX12_made 107 = .ok (.goto 4, 3) := by decide +kernel
theorem dX12_made_110 : decode cX12_made 110 = .ok (.iconst 0, 1) := by decide +kernel
theorem dX12_made_111 : decode cX12_made 111 = .ok (.istore 7, 2) := by decide +kernel
theorem dX12_made_113 : decode cX12_made 113 = .ok (.iload_n 3, 1) := by decide +kernel
theorem dX12_made_114 : decode cX12_made 114 = .ok (.iload 7, 2) := by decide +kernel
theorem dX12_made_116 : decode cX12_made 116 = .ok (.ifCond .eq 10, 3) := by decide +kernel
theorem dX12_made_119 : decode cX12_made 119 = .ok (.iconst 1, 1) := by decide +kernel
theorem dX12_made_120 : decode cX12_made 120 = .ok (.iload 6, 2) := by decide +kernel
theorem dX12_made_122 : decode cX12_made 122 = .ok (.ishl, 1) := by decide +kernel
theorem dX12_made_123 : decode cX12_made 123 = .ok (.goto 4, 3) := by decide +kernel
theorem dX12_made_126 : decode cX12_made 126 = .ok (.iconst 0, 1) := by decide +kernel
theorem dX12_made_127 : decode cX12_made 127 = .ok (.ior, 1) := by decide +kernel
theorem dX12_made_128 : decode cX12_made 128 = .ok (.istore_n 3, 1) := by decide +kernel
theorem dX12_made_129 : decode cX12_made 129 = .ok (.iload 7, 2) := by decide +kernel
theorem dX12_made_131 : decode cX12_made 131 = .ok (.ifCond .ne 83, 3) := by decide +kernel
theorem dX12_made_134 : decode cX12_made 134 = .ok (.aload_n 0, 1) := by decide +kernel
theorem dX12_made_135 : decode cX12_made 135 = .ok (.getfield 127, 3) := by decide +kernel
theorem dX12_made_138 : decode cX12_made 138 = .ok (.bipush 12, 2) := by decide +kernel
theorem dX12_made_140 : decode cX12_made 140 = .ok (.iload 6, 2) := by decide +kernel
theorem dX12_made_142 : decode cX12_made 142 = .ok (.imul, 1) := by decide +kernel
theorem dX12_made_143 : decode cX12_made 143 = .ok (.bipush 8, 2) := by decide +kernel
theorem dX12_made_145 : decode cX12_made 145 = .ok (.iadd, 1) := by decide +kernel
theorem dX12_made_146 : decode cX12_made 146 = .ok (.iaload, 1) := by decide +kernel
theorem dX12_made_147 : decode cX12_made 147 = .ok (.ifCond .lt 19, 3) := by decide +kernel
theorem dX12_made_150 : decode cX12_made 150 = .ok (.aload_n 0, 1) := by decide +kernel
theorem dX12_made_151 : decode cX12_made 151 = .ok (.getfield 127, 3) := by decide +kernel
theorem dX12_made_154 : decode cX12_made 154 = .ok (.bipush 12, 2) := by decide +kernel
theorem dX12_made_156 : decode cX12_made 156 = .ok (.iload 6, 2) := by decide +kernel
theorem dX12_made_158 : decode cX12_made 158 = .ok (.imul, 1) := by decide +kernel
theorem dX12_made_159 : decode cX12_made 159 = .ok (.bipush 8, 2) := by decide +kernel
theorem dX12_made_161 : decode cX12_made 161 = .ok (.iadd, 1) := by decide +kernel
theorem dX12_made_162 : decode cX12_made 162 = .ok (.iaload, 1) := by decide +kernel
theorem dX12_made_163 : decode cX12_made 163 = .ok (.goto 4, 3) := by decide +kernel
theorem dX12_made_166 : decode cX12_made 166 = .ok (.iload_n 2, 1) := by decide +kernel
theorem dX12_made_167 : decode cX12_made 167 = .ok (.istore_n 2, 1) := by decide +kernel
theorem dX12_made_168 : decode cX12_made 168 = .ok (.iload_n 2, 1) := by decide +kernel
theorem dX12_made_169 : decode cX12_made 169 = .ok (.aload_n 0, 1) := by decide +kernel
theorem dX12_made_170 : decode cX12_made 170 = .ok (.getfield 127, 3) := by decide +kernel
theorem dX12_made_173 : decode cX12_made 173 = .ok (.bipush 12, 2) := by decide +kernel
theorem dX12_made_175 : decode cX12_made 175 = .ok (.iload 6, 2) := by decide +kernel
theorem dX12_made_177 : decode cX12_made 177 = .ok (.imul, 1) := by decide +kernel
theorem dX12_made_178 : decode cX12_made 178 = .ok (.bipush 7, 2) := by decide +kernel
theorem dX12_made_180 : decode cX12_made 180 = .ok (.iadd, 1) := by decide +kernel
theorem dX12_made_181 : decode cX12_made 181 = .ok (.iaload, 1) := by decide +kernel
theorem dX12_made_182 : decode cX12_made 182 = .ok (.iadd, 1) := by decide +kernel
theorem dX12_made_183 : decode cX12_made 183 = .ok (.istore_n 2, 1) := by decide +kernel
theorem dX12_made_184 : decode cX12_made 184 = .ok (.iload 6, 2) := by decide +kernel
theorem dX12_made_186 : decode cX12_made 186 = .ok (.iload_n 1, 1) := by decide +kernel
theorem dX12_made_187 : decode cX12_made 187 = .ok (.if_icmp .ne 23, 3) := by decide +kernel
theorem dX12_made_190 : decode cX12_made 190 = .ok (.aload_n 0, 1) := by decide +kernel
theorem dX12_made_191 : decode cX12_made 191 = .ok (.getfield 127, 3) := by decide +kernel
theorem dX12_made_194 : decode cX12_made 194 = .ok (.bipush 12, 2) := by decide +kernel
theorem dX12_made_196 : decode cX12_made 196 = .ok (.iload 6, 2) := by decide +kernel
theorem dX12_made_198 : decode cX12_made 198 = .ok (.imul, 1) := by decide +kernel
theorem dX12_made_199 : decode cX12_made 199 = .ok (.bipush 9, 2) := by decide +kernel
theorem dX12_made_201 : decode cX12_made 201 = .ok (.iadd, 1) := by decide +kernel
theorem dX12_made_202 : decode cX12_made 202 = .ok (.iaload, 1) := by decide +kernel
theorem dX12_made_203 : decode cX12_made 203 = .ok (.ifCond .le 7, 3) := by decide +kernel
theorem dX12_made_206 : decode cX12_made 206 = .ok (.iload_n 2, 1) := by decide +kernel
theorem dX12_made_207 : decode cX12_made 207 = .ok (.goto 5, 3) := by decide +kernel
theorem dX12_made_210 : decode cX12_made 210 = .ok (.iload 4, 2) := by decide +kernel
theorem dX12_made_212 : decode cX12_made 212 = .ok (.istore 4, 2) := by decide +kernel
theorem dX12_made_214 : decode cX12_made 214 = .ok (.iinc 5 1, 3) := by decide +kernel
theorem dX12_made_217 : decode cX12_made 217 = .ok (.goto (-169), 3) := by decide +kernel
theorem dX12_made_220 : decode cX12_made 220 = .ok (.iload 4, 2) := by decide +kernel
theorem dX12_made_222 : decode cX12_made 222 = .ok (.ireturn, 1) := by decide +kernel
theorem dX12_why_0 : decode cX12_why 0 = .ok (.aload_n 0, 1) := by decide +kernel
theorem dX12_why_1 : decode cX12_why 1 = .ok (.aload_n 0, 1) := by decide +kernel
theorem dX12_why_2 : decode cX12_why 2 = .ok (.iload_n 1, 1) := by decide +kernel
theorem dX12_why_3 : decode cX12_why 3 = .ok (.invokevirtual 234, 3) := by decide +kernel
theorem dX12_why_6 : decode cX12_why 6 = .ok (.ifCond .eq 11, 3) := by decide +kernel
theorem dX12_why_9 : decode cX12_why 9 = .ok (.aload_n 0, 1) := by decide +kernel
theorem dX12_why_10 : decode cX12_why 10 = .ok (.iload_n 3, 1) := by decide +kernel
theorem dX12_why_11 : decode cX12_why 11 = .ok (.invokevirtual 540, 3) := by decide +kernel
theorem dX12_why_14 : decode cX12_why 14 = .ok (.ifCond .ne 7, 3) := by decide +kernel
theorem dX12_why_17 : decode cX12_why 17 = .ok (.iconst 1, 1) := by decide +kernel
theorem dX12_why_18 : decode cX12_why 18 = .ok (.goto 31, 3) := by decide +kernel
theorem dX12_why_21 : decode cX12_why 21 = .ok (.aload_n 0, 1) := by decide +kernel
theorem dX12_why_22 : decode cX12_why 22 = .ok (.iload_n 2, 1) := by decide +kernel
theorem dX12_why_23 : decode cX12_why 23 = .ok (.iconst 0, 1) := by decide +kernel
theorem dX12_why_24 : decode cX12_why 24 = .ok (.bipush 14, 2) := by decide +kernel
theorem dX12_why_26 : decode cX12_why 26 = .ok (.invokevirtual 230, 3) := by decide +kernel
theorem dX12_why_29 : decode cX12_why 29 = .ok (.ifCond .ne 7, 3) := by decide +kernel
theorem dX12_why_32 : decode cX12_why 32 = .ok (.iconst 2, 1) := by decide +kernel
theorem dX12_why_33 : decode cX12_why 33 = .ok (.goto 16, 3) := by decide +kernel
theorem dX12_why_36 : decode cX12_why 36 = .ok (.aload_n 0, 1) := by decide +kernel
theorem dX12_why_37 : decode cX12_why 37 = .ok (.iload_n 1, 1) := by decide +kernel
theorem dX12_why_38 : decode cX12_why 38 = .ok (.invokevirtual 245, 3) := by decide +kernel
theorem dX12_why_41 : decode cX12_why 41 = .ok (.ifCond .ne 7, 3) := by decide +kernel
theorem dX12_why_44 : decode cX12_why 44 = .ok (.iconst 3, 1) := by decide +kernel
theorem dX12_why_45 : decode cX12_why 45 = .ok (.goto 4, 3) := by decide +kernel
theorem dX12_why_48 : decode cX12_why 48 = .ok (.iconst 0, 1) := by decide +kernel
theorem dX12_why_49 : decode cX12_why 49 = .ok (.invokevirtual 512, 3) := by decide +kernel
theorem dX12_why_52 : decode cX12_why 52 = .ok (.ifCond .eq 5, 3) := by decide +kernel
theorem dX12_why_55 : decode cX12_why 55 = .ok (.iconst (-1), 1) := by decide +kernel
theorem dX12_why_56 : decode cX12_why 56 = .ok (.ireturn, 1) := by decide +kernel
theorem dX12_why_57 : decode cX12_why 57 = .ok (.aload_n 0, 1) := by decide +kernel
theorem dX12_why_58 : decode cX12_why 58 = .ok (.invokevirtual 557, 3) := by decide +kernel
theorem dX12_why_61 : decode cX12_why 61 = .ok (.bipush 16, 2) := by decide +kernel
theorem dX12_why_63 : decode cX12_why 63 = .ok (.iload_n 3, 1) := by decide +kernel
theorem dX12_why_64 : decode cX12_why 64 = .ok (.imul, 1) := by decide +kernel
theorem dX12_why_65 : decode cX12_why 65 = .ok (.iload_n 2, 1) := by decide +kernel
theorem dX12_why_66 : decode cX12_why 66 = .ok (.iadd, 1) := by decide +kernel
theorem dX12_why_67 : decode cX12_why 67 = .ok (.istore 4, 2) := by decide +kernel
theorem dX12_why_69 : decode cX12_why 69 = .ok (.aload_n 0, 1) := by decide +kernel
theorem dX12_why_70 : decode cX12_why 70 = .ok (.getfield 109, 3) := by decide +kernel
theorem dX12_why_73 : decode cX12_why 73 = .ok (.iload 4, 2) := by decide +kernel
theorem dX12_why_75 : decode cX12_why 75 = .ok (.iaload, 1) := by decide +kernel
theorem dX12_why_76 : decode cX12_why 76 = .ok (.ifCond .lt 17, 3) := by decide +kernel
theorem dX12_why_79 : decode cX12_why 79 = .ok (.aload_n 0, 1) := by decide +kernel
theorem dX12_why_80 : decode cX12_why 80 = .ok (.getfield 94, 3) := by decide +kernel
theorem dX12_why_83 : decode cX12_why 83 = .ok (.aload_n 0, 1) := by decide +kernel
theorem dX12_why_84 : decode cX12_why 84 = .ok (.getfield 97, 3) := by decide +kernel
theorem dX12_why_87 : decode cX12_why 87 = .ok (.iload_n 3, 1) := by decide +kernel
theorem dX12_why_88 : decode cX12_why 88 = .ok (.iaload, 1) := by decide +kernel
theorem dX12_why_89 : decode cX12_why 89 = .ok (.iaload, 1) := by decide +kernel
theorem dX12_why_90 : decode cX12_why 90 = .ok (.ifCond .ne 21, 3) := by decide +kernel
theorem dX12_why_93 : decode cX12_why 93 = .ok (.aload_n 0, 1) := by decide +kernel
theorem dX12_why_94 : decode cX12_why 94 = .ok (.getfield 109, 3) := by decide +kernel
theorem dX12_why_97 : decode cX12_why 97 = .ok (.iload 4, 2) := by decide +kernel
theorem dX12_why_99 : decode cX12_why 99 = .ok (.iaload, 1) := by decide +kernel
theorem dX12_why_100 : decode cX12_why 100 = .ok (.ifCond .ge 8, 3) := by decide +kernel
theorem dX12_why_103 : decode cX12_why 103 = .ok (.bipush 11, 2) := by decide +kernel
theorem dX12_why_105 : decode cX12_why 105 = .ok (.goto 5, 3) := by decide +kernel
theorem dX12_why_108 : decode cX12_why 108 = .ok (.bipush 10, 2) := by decide +kernel
theorem dX12_why_110 : decode cX12_why 110 = .ok (.ireturn, 1) := by decide +kernel
theorem dX12_why_111 : decode cX12_why 111 = .ok (.aload_n 0, 1) := by decide +kernel
theorem dX12_why_112 : decode cX12_why 112 = .ok (.iload_n 3, 1) := by decide +kernel
theorem dX12_why_113 : decode cX12_why 113 = .ok (.invokevirtual 350, 3) := by decide +kernel
theorem dX12_why_116 : decode cX12_why 116 = .ok (.ifCond .eq 17, 3) := by decide +kernel
theorem dX12_why_119 : decode cX12_why 119 = .ok (.aload_n 0, 1) := by decide +kernel
theorem dX12_why_120 : decode cX12_why 120 = .ok (.aload_n 0, 1) := by decide +kernel
theorem dX12_why_121 : decode cX12_why 121 = .ok (.getfield 190, 3) := by decide +kernel
theorem dX12_why_124 : decode cX12_why 124 = .ok (.iload_n 3, 1) := by decide +kernel
theorem dX12_why_125 : decode cX12_why 125 = .ok (.iaload, 1) := by decide +kernel
theorem dX12_why_126 : decode cX12_why 126 = .ok (.iload_n 1, 1) := by decide +kernel
theorem dX12_why_127 : decode cX12_why 127 = .ok (.invokevirtual 288, 3) := by decide +kernel
theorem dX12_why_130 : decode cX12_why 130 = .ok (.ifCond .ne 19, 3) := by decide +kernel
theorem dX12_why_133 : decode cX12_why 133 = .ok (.aload_n 0, 1) := by decide +kernel
theorem dX12_why_134 : decode cX12_why 134 = .ok (.iload_n 3, 1) := by decide +kernel
theorem dX12_why_135 : decode cX12_why 135 = .ok (.invokevirtual 350, 3) := by decide +kernel
theorem dX12_why_138 : decode cX12_why 138 = .ok (.ifCond .eq 8, 3) := by decide +kernel
theorem dX12_why_141 : decode cX12_why 141 = .ok (.bipush 8, 2) := by decide +kernel
theorem dX12_why_143 : decode cX12_why 143 = .ok (.goto 5, 3) := by decide +kernel
theorem dX12_why_146 : decode cX12_why 146 = .ok (.bipush 9, 2) := by decide +kernel
theorem dX12_why_148 : decode cX12_why 148 = .ok (.ireturn, 1) := by decide +kernel
theorem dX12_why_149 : decode cX12_why 149 = .ok (.aload_n 0, 1) := by decide +kernel
theorem dX12_why_150 : decode cX12_why 150 = .ok (.iload_n 3, 1) := by decide +kernel
theorem dX12_why_151 : decode cX12_why 151 = .ok (.iload_n 1, 1) := by decide +kernel
theorem dX12_why_152 : decode cX12_why 152 = .ok (.iconst 0, 1) := by decide +kernel
theorem dX12_why_153 : decode cX12_why 153 = .ok (.iconst 0, 1) := by decide +kernel
theorem dX12_why_154 : decode cX12_why 154 = .ok (.invokevirtual 353, 3) := by decide +kernel
theorem dX12_why_157 : decode cX12_why 157 = .ok (.ifCond .ne 6, 3) := by decide +kernel
theorem dX12_why_160 : decode cX12_why 160 = .ok (.bipush 7, 2) := by decide +kernel
theorem dX12_why_162 : decode cX12_why 162 = .ok (.ireturn, 1) := by decide +kernel
theorem dX12_why_163 : decode cX12_why 163 = .ok (.aload_n 0, 1) := by decide +kernel
theorem dX12_why_164 : decode cX12_why 164 = .ok (.iload_n 1, 1) := by decide +kernel
theorem dX12_why_165 : decode cX12_why 165 = .ok (.iload_n 2, 1) := by decide +kernel
theorem dX12_why_166 : decode cX12_why 166 = .ok (.iconst 3, 1) := by decide +kernel
theorem dX12_why_167 : decode cX12_why 167 = .ok (.iconst 0, 1) := by decide +kernel
theorem dX12_why_168 : decode cX12_why 168 = .ok (.iconst 0, 1) := by decide +kernel
theorem dX12_why_169 : decode cX12_why 169 = .ok (.invokevirtual 360, 3) := by decide +kernel
theorem dX12_why_172 : decode cX12_why 172 = .ok (.istore 5, 2) := by decide +kernel
theorem dX12_why_174 : decode cX12_why 174 = .ok (.iload 5, 2) := by decide +kernel
theorem dX12_why_176 : decode cX12_why 176 = .ok (.iload 4, 2) := by decide +kernel
theorem dX12_why_178 : decode cX12_why 178 = .ok (.if_icmp .ne 7, 3) := by decide +kernel
theorem dX12_why_181 : decode cX12_why 181 = .ok (.iconst 0, 1) := by decide +kernel
theorem dX12_why_182 : decode cX12_why 182 = .ok (.goto 11, 3) := by decide +kernel
theorem dX12_why_185 : decode cX12_why 185 = .ok (.aload_n 0, 1) := by decide +kernel
theorem dX12_why_186 : decode cX12_why 186 = .ok (.iload 5, 2) := by decide +kernel
theorem dX12_why_188 : decode cX12_why 188 = .ok (.iload 4, 2) := by decide +kernel
theorem dX12_why_190 : decode cX12_why 190 = .ok (.invokevirtual 357, 3) := by decide +kernel
theorem dX12_why_193 : decode cX12_why 193 = .ok (.ireturn, 1) := by decide +kernel
theorem dX12_valueAnew_0 : decode cX12_valueAnew 0 = .ok (.aload_n 0, 1) := by decide +kernel
theorem dX12_valueAnew_1 : decode cX12_valueAnew 1 = .ok (.aload_n 0, 1) := by decide +kernel
theorem dX12_valueAnew_2 : decode cX12_valueAnew 2 = .ok (.iload_n 1, 1) := by decide +kernel
theorem dX12_valueAnew_3 : decode cX12_valueAnew 3 = .ok (.invokevirtual 234, 3) := by decide +kernel
theorem dX12_valueAnew_6 : decode cX12_valueAnew 6 = .ok (.ifCond .ne 7, 3) := by decide +kernel
theorem dX12_valueAnew_9 : decode cX12_valueAnew 9 = .ok (.iconst 1, 1) := by decide +kernel
theorem dX12_valueAnew_10 : decode cX12_valueAnew 10 = .ok (.goto 31, 3) := by decide +kernel
theorem dX12_valueAnew_13 : decode cX12_valueAnew 13 = .ok (.aload_n 0, 1) := by decide +kernel
theorem dX12_valueAnew_14 : decode cX12_valueAnew 14 = .ok (.iload_n 2, 1) := by decide +kernel
theorem dX12_valueAnew_15 : decode cX12_valueAnew 15 = .ok (.iconst 0, 1) := by decide +kernel
theorem dX12_valueAnew_16 : decode cX12_valueAnew 16 = .ok (.bipush 14, 2) := by decide +kernel
theorem dX12_valueAnew_18 : decode cX12_valueAnew 18 = .ok (.invokevirtual 230, 3) := by decide +kernel
theorem dX12_valueAnew_21 : decode cX12_valueAnew 21 = .ok (.ifCond .ne 7, 3) := by decide +kernel
theorem dX12_valueAnew_24 : decode cX12_valueAnew 24 = .ok (.iconst 2, 1) := by decide +kernel
theorem dX12_valueAnew_25 : decode cX12_valueAnew 25 = .ok (.goto 16, 3) := by decide +kernel
theorem dX12_valueAnew_28 : decode cX12_valueAnew 28 = .ok (.aload_n 0, 1) := by decide +kernel
theorem dX12_valueAnew_29 : decode cX12_valueAnew 29 = .ok (.iload_n 1, 1) := by decide +kernel
theorem dX12_valueAnew_30 : decode cX12_valueAnew 30 = .ok (.invokevirtual 245, 3) := by decide +kernel
theorem dX12_valueAnew_33 : decode cX12_valueAnew 33 = .ok (.ifCond .ne 7, 3) := by decide +kernel
theorem dX12_valueAnew_36 : decode cX12_valueAnew 36 = .ok (.iconst 3, 1) := by decide +kernel
theorem dX12_valueAnew_37 : decode cX12_valueAnew 37 = .ok (.goto 4, 3) := by decide +kernel
theorem dX12_valueAnew_40 : decode cX12_valueAnew 40 = .ok (.iconst 0, 1) := by decide +kernel
theorem dX12_valueAnew_41 : decode cX12_valueAnew 41 = .ok (.invokevirtual 512, 3) := by decide +kernel
theorem dX12_valueAnew_44 : decode cX12_valueAnew 44 = .ok (.ifCond .eq 5, 3) := by decide +kernel
theorem dX12_valueAnew_47 : decode cX12_valueAnew 47 = .ok (.iconst (-1), 1) := by decide +kernel
theorem dX12_valueAnew_48 : decode cX12_valueAnew 48 = .ok (.ireturn, 1) := by decide +kernel
theorem dX12_valueAnew_49 : decode cX12_valueAnew 49 = .ok (.aload_n 0, 1) := by decide +kernel
theorem dX12_valueAnew_50 : decode cX12_valueAnew 50 = .ok (.invokevirtual 447, 3) := by decide +kernel
theorem dX12_valueAnew_53 : decode cX12_valueAnew 53 = .ok (.aload_n 0, 1) := by decide +kernel
theorem dX12_valueAnew_54 : decode cX12_valueAnew 54 = .ok (.invokevirtual 450, 3) := by decide +kernel
theorem dX12_valueAnew_57 : decode cX12_valueAnew 57 = .ok (.iconst 0, 1) := by decide +kernel
theorem dX12_valueAnew_58 : decode cX12_valueAnew 58 = .ok (.istore_n 3, 1) := by decide +kernel
theorem dX12_valueAnew_59 : decode cX12_valueAnew 59 = .ok (.iload_n 3, 1) := by decide +kernel
theorem dX12_valueAnew_60 : decode cX12_valueAnew 60 = .ok (.aload_n 0, 1) := by decide +kernel
theorem dX12_valueAnew_61 : decode cX12_valueAnew 61 = .ok (.getfield 271, 3) := by decide +kernel
theorem dX12_valueAnew_64 : decode cX12_valueAnew 64 = .ok (.if_icmp .ge 47, 3) := by decide +kernel
theorem dX12_valueAnew_67 : decode cX12_valueAnew 67 = .ok (.aload_n 0, 1) := by decide +kernel
theorem dX12_valueAnew_68 : decode cX12_valueAnew 68 = .ok (.aload_n 0, 1) := by decide +kernel
theorem dX12_valueAnew_69 : decode cX12_valueAnew 69 = .ok (.getfield 193, 3) := by decide +kernel
theorem dX12_valueAnew_72 : decode cX12_valueAnew 72 = .ok (.iload_n 3, 1) := by decide +kernel
theorem dX12_valueAnew_73 : decode cX12_valueAnew 73 = .ok (.iaload, 1) := by decide +kernel
theorem dX12_valueAnew_74 : decode cX12_valueAnew 74 = .ok (.iconst 1, 1) := by decide +kernel
theorem dX12_valueAnew_75 : decode cX12_valueAnew 75 = .ok (.iconst 1, 1) := by decide +kernel
theorem dX12_valueAnew_76 : decode cX12_valueAnew 76 = .ok (.iconst 0, 1) := by decide +kernel
theorem dX12_valueAnew_77 : decode cX12_valueAnew 77 = .ok (.invokevirtual 413, 3) := by decide +kernel
theorem dX12_valueAnew_80 : decode cX12_valueAnew 80 = .ok (.aload_n 0, 1) := by decide +kernel
theorem dX12_valueAnew_81 : decode cX12_valueAnew 81 = .ok (.getfield 136, 3) := by decide +kernel
theorem dX12_valueAnew_84 : decode cX12_valueAnew 84 = .ok (.bipush 30, 2) := by decide +kernel
theorem dX12_valueAnew_86 : decode cX12_valueAnew 86 = .ok (.aload_n 0, 1) := by decide +kernel
theorem dX12_valueAnew_87 : decode cX12_valueAnew 87 = .ok (.getfield 193, 3) := by decide +kernel
theorem dX12_valueAnew_90 : decode cX12_valueAnew 90 = .ok (.iload_n 3, 1) := by decide +kernel
theorem dX12_valueAnew_91 : decode cX12_valueAnew 91 = .ok (.iaload, 1) := by decide +kernel
theorem dX12_valueAnew_92 : decode cX12_valueAnew 92 = .ok (.iadd, 1) := by decide +kernel
theorem dX12_valueAnew_93 : decode cX12_valueAnew 93 = .ok (.aload_n 0, 1) := by decide +kernel
theorem dX12_valueAnew_94 : decode cX12_valueAnew 94 = .ok (.aload_n 0, 1) := by decide +kernel
theorem dX12_valueAnew_95 : decode cX12_valueAnew 95 = .ok (.getfield 193, 3) := by decide +kernel
theorem dX12_valueAnew_98 : decode cX12_valueAnew 98 = .ok (.iload_n 3, 1) := by decide +kernel
theorem dX12_valueAnew_99 : decode cX12_valueAnew 99 = .ok (.iaload, 1) := by decide +kernel
theorem dX12_valueAnew_100 : decode cX12_valueAnew 100 = .ok (.iconst 1, 1) := by decide +kernel
theorem dX12_valueAnew_101 : decode cX12_valueAnew 101 = .ok (.invokevirtual 434, 3) := by decide +kernel
theorem dX12_valueAnew_104 : decode cX12_valueAnew 104 = .ok (.iastore, 1) := by decide +kernel
theorem dX12_valueAnew_105 : decode cX12_valueAnew 105 = .ok (.iinc 3 1, 3) := by decide +kernel
theorem dX12_valueAnew_108 : decode cX12_valueAnew 108 = .ok (.goto (-49), 3) := by decide +kernel
theorem dX12_valueAnew_111 : decode cX12_valueAnew 111 = .ok (.aload_n 0, 1) := by decide +kernel
theorem dX12_valueAnew_112 : decode cX12_valueAnew 112 = .ok (.iload_n 1, 1) := by decide +kernel
theorem dX12_valueAnew_113 : decode cX12_valueAnew 113 = .ok (.iload_n 2, 1) := by decide +kernel
theorem dX12_valueAnew_114 : decode cX12_valueAnew 114 = .ok (.iconst 1, 1) := by decide +kernel
theorem dX12_valueAnew_115 : decode cX12_valueAnew 115 = .ok (.invokevirtual 560, 3) := by decide +kernel
theorem dX12_valueAnew_118 : decode cX12_valueAnew 118 = .ok (.ireturn, 1) := by decide +kernel
theorem dX12_marked_0 : decode cX12_marked 0 = .ok (.aload_n 0, 1) := by decide +kernel
theorem dX12_marked_1 : decode cX12_marked 1 = .ok (.getfield 460, 3) := by decide +kernel
theorem dX12_marked_4 : decode cX12_marked 4 = .ok (.aload_n 0, 1) := by decide +kernel
theorem dX12_marked_5 : decode cX12_marked 5 = .ok (.invokevirtual 453, 3) := by decide +kernel
theorem dX12_marked_8 : decode cX12_marked 8 = .ok (.iand, 1) := by decide +kernel
theorem dX12_marked_9 : decode cX12_marked 9 = .ok (.ireturn, 1) := by decide +kernel
theorem dX12_flushes_0 : decode cX12_flushes 0 = .ok (.aload_n 0, 1) := by decide +kernel
theorem dX12_flushes_1 : decode cX12_flushes 1 = .ok (.getfield 481, 3) := by decide +kernel
theorem dX12_flushes_4 : decode cX12_flushes 4 = .ok (.ireturn, 1) := by decide +kernel
theorem dX12_restyled_0 : decode cX12_restyled 0 = .ok (.aload_n 0, 1) := by decide +kernel
theorem dX12_restyled_1 : decode cX12_restyled 1 = .ok (.getfield 466, 3) := by decide +kernel
theorem dX12_restyled_4 : decode cX12_restyled 4 = .ok (.ireturn, 1) := by decide +kernel
theorem dX12_shared_0 : decode cX12_shared 0 = .ok (.aload_n 0, 1) := by decide +kernel
theorem dX12_shared_1 : decode cX12_shared 1 = .ok (.getfield 475, 3) := by decide +kernel
theorem dX12_shared_4 : decode cX12_shared 4 = .ok (.ireturn, 1) := by decide +kernel
theorem dX12_tick_0 : decode cX12_tick 0 = .ok (.aload_n 0, 1) := by decide +kernel
theorem dX12_tick_1 : decode cX12_tick 1 = .ok (.aload_n 0, 1) := by decide +kernel
theorem dX12_tick_2 : decode cX12_tick 2 = .ok (.iload_n 1, 1) := by decide +kernel
theorem dX12_tick_3 : decode cX12_tick 3 = .ok (.iconst 1, 1) := by decide +kernel
theorem dX12_tick_4 : decode cX12_tick 4 = .ok (.sipush 1000, 3) := by decide +kernel
theorem dX12_tick_7 : decode cX12_tick 7 = .ok (.invokevirtual 230, 3) := by decide +kernel
theorem dX12_tick_10 : decode cX12_tick 10 = .ok (.ifCond .eq 7, 3) := by decide +kernel
theorem dX12_tick_13 : decode cX12_tick 13 = .ok (.iconst 0, 1) := by decide +kernel
theorem dX12_tick_14 : decode cX12_tick 14 = .ok (.goto 4, 3) := by decide +kernel
theorem dX12_tick_17 : decode cX12_tick 17 = .ok (.iconst 1, 1) := by decide +kernel
theorem dX12_tick_18 : decode cX12_tick 18 = .ok (.invokevirtual 512, 3) := by decide +kernel
theorem dX12_tick_21 : decode cX12_tick 21 = .ok (.ifCond .eq 5, 3) := by decide +kernel
theorem dX12_tick_24 : decode cX12_tick 24 = .ok (.iconst (-1), 1) := by decide +kernel
theorem dX12_tick_25 : decode cX12_tick 25 = .ok (.ireturn, 1) := by decide +kernel
theorem dX12_tick_26 : decode cX12_tick 26 = .ok (.aload_n 0, 1) := by decide +kernel
theorem dX12_tick_27 : decode cX12_tick 27 = .ok (.dup, 1) := by decide +kernel
theorem dX12_tick_28 : decode cX12_tick 28 = .ok (.getfield 416, 3) := by decide +kernel
theorem dX12_tick_31 : decode cX12_tick 31 = .ok (.iload_n 1, 1) := by decide +kernel
theorem dX12_tick_32 : decode cX12_tick 32 = .ok (.iadd, 1) := by decide +kernel
theorem dX12_tick_33 : decode cX12_tick 33 = .ok (.putfield 416, 3) := by decide +kernel
theorem dX12_tick_36 : decode cX12_tick 36 = .ok (.aload_n 0, 1) := by decide +kernel
theorem dX12_tick_37 : decode cX12_tick 37 = .ok (.getfield 416, 3) := by decide +kernel
theorem dX12_tick_40 : decode cX12_tick 40 = .ok (.ireturn, 1) := by decide +kernel
theorem dX12_animation_0 : decode cX12_animation 0 = .ok (.aload_n 0, 1) := by decide +kernel
theorem dX12_animation_1 : decode cX12_animation 1 = .ok (.aload_n 0, 1) := by decide +kernel
theorem dX12_animation_2 : decode cX12_animation 2 = .ok (.iload_n 1, 1) := by decide +kernel
theorem dX12_animation_3 : decode cX12_animation 3 = .ok (.iconst 0, 1) := by decide +kernel
theorem dX12_animation_4 : decode cX12_animation 4 = .ok (.iconst 3, 1) := by decide +kernel
theorem dX12_animation_5 : decode cX12_animation 5 = .ok (.invokevirtual 230, 3) := by decide +kernel
theorem dX12_animation_8 : decode cX12_animation 8 = .ok (.ifCond .eq 30, 3) := by decide +kernel
theorem dX12_animation_11 : decode cX12_animation 11 = .ok (.aload_n 0, 1) := by decide +kernel
theorem dX12_animation_12 : decode cX12_animation 12 = .ok (.iload_n 2, 1) := by decide +kernel
theorem dX12_animation_13 : decode cX12_animation 13 = .ok (.iconst 1, 1) := by decide +kernel
theorem dX12_animation_14 : decode cX12_animation 14 = .ok (.sipush 1000, 3) := by decide +kernel
theorem dX12_animation_17 : decode cX12_animation 17 = .ok (.invokevirtual 230, 3) := by decide +kernel
theorem dX12_animation_20 : decode cX12_animation 20 = .ok (.ifCond .eq 18, 3) := by decide +kernel
theorem dX12_animation_23 : decode cX12_animation 23 = .ok (.aload_n 0, 1) := by decide +kernel
theorem dX12_animation_24 : decode cX12_animation 24 = .ok (.iload_n 3, 1) := by decide +kernel
theorem dX12_animation_25 : decode cX12_animation 25 = .ok (.iconst 1, 1) := by decide +kernel
theorem dX12_animation_26 : decode cX12_animation 26 = .ok (.bipush 100, 2) := by decide +kernel
theorem dX12_animation_28 : decode cX12_animation 28 = .ok (.invokevirtual 230, 3) := by decide +kernel
theorem dX12_animation_31 : decode cX12_animation 31 = .ok (.ifCond .eq 7, 3) := by decide +kernel
theorem dX12_animation_34 : decode cX12_animation 34 = .ok (.iconst 0, 1) := by decide +kernel
theorem dX12_animation_35 : decode cX12_animation 35 = .ok (.goto 4, 3) := by decide +kernel
theorem dX12_animation_38 : decode cX12_animation 38 = .ok (.iconst 1, 1) := by decide +kernel
theorem dX12_animation_39 : decode cX12_animation 39 = .ok (.invokevirtual 512, 3) := by decide +kernel
theorem dX12_animation_42 : decode cX12_animation 42 = .ok (.ifCond .ne 33, 3) := by decide +kernel
theorem dX12_animation_45 : decode cX12_animation 45 = .ok (.aload_n 0, 1) := by decide +kernel
theorem dX12_animation_46 : decode cX12_animation 46 = .ok (.getfield 157, 3) := by decide +kernel
theorem dX12_animation_49 : decode cX12_animation 49 = .ok (.iload_n 1, 1) := by decide +kernel
theorem dX12_animation_50 : decode cX12_animation 50 = .ok (.iload_n 2, 1) := by decide +kernel
theorem dX12_animation_51 : decode cX12_animation 51 = .ok (.iastore, 1) := by decide +kernel
theorem dX12_animation_52 : decode cX12_animation 52 = .ok (.aload_n 0, 1) := by decide +kernel
theorem dX12_animation_53 : decode cX12_animation 53 = .ok (.getfield 160, 3) := by decide +kernel
theorem dX12_animation_56 : decode cX12_animation 56 = .ok (.iload_n 1, 1) := by decide +kernel
theorem dX12_animation_57 : decode cX12_animation 57 = .ok (.iload_n 3, 1) := by decide +kernel
theorem dX12_animation_58 : decode cX12_animation 58 = .ok (.iastore, 1) := by decide +kernel
theorem dX12_animation_59 : decode cX12_animation 59 = .ok (.aload_n 0, 1) := by decide +kernel
theorem dX12_animation_60 : decode cX12_animation 60 = .ok (.getfield 163, 3) := by decide +kernel
theorem dX12_animation_63 : decode cX12_animation 63 = .ok (.iload_n 1, 1) := by decide +kernel
theorem dX12_animation_64 : decode cX12_animation 64 = .ok (.iload 4, 2) := by decide +kernel
theorem dX12_animation_66 : decode cX12_animation 66 = .ok (.ifCond .eq 7, 3) := by decide +kernel
theorem dX12_animation_69 : decode cX12_animation 69 = .ok (.iconst 1, 1) := by decide +kernel
theorem dX12_animation_70 : decode cX12_animation 70 = .ok (.goto 4, 3) := by decide +kernel
theorem dX12_animation_73 : decode cX12_animation 73 = .ok (.iconst 0, 1) := by decide +kernel
theorem dX12_animation_74 : decode cX12_animation 74 = .ok (.iastore, 1) := by decide +kernel
theorem dX12_animation_75 : decode cX12_animation 75 = .ok (.return_, 1) := by decide +kernel
theorem dX12_frame_0 : decode cX12_frame 0 = .ok (.aload_n 0, 1) := by decide +kernel
theorem dX12_frame_1 : decode cX12_frame 1 = .ok (.aload_n 0, 1) := by decide +kernel
theorem dX12_frame_2 : decode cX12_frame 2 = .ok (.iload_n 1, 1) := by decide +kernel
theorem dX12_frame_3 : decode cX12_frame 3 = .ok (.iconst 0, 1) := by decide +kernel
theorem dX12_frame_4 : decode cX12_frame 4 = .ok (.iconst 3, 1) := by decide +kernel
theorem dX12_frame_5 : decode cX12_frame 5 = .ok (.invokevirtual 230, 3) := by decide +kernel
theorem dX12_frame_8 : decode cX12_frame 8 = .ok (.ifCond .eq 43, 3) := by decide +kernel
theorem dX12_frame_11 : decode cX12_frame 11 = .ok (.aload_n 0, 1) := by decide +kernel
theorem dX12_frame_12 : decode cX12_frame 12 = .ok (.iload_n 2, 1) := by decide +kernel
theorem dX12_frame_13 : decode cX12_frame 13 = .ok (.iconst 0, 1) := by decide +kernel
theorem dX12_frame_14 : decode cX12_frame 14 = .ok (.iconst 4, 1) := by decide +kernel
theorem dX12_frame_15 : decode cX12_frame 15 = .ok (.invokevirtual 230, 3) := by decide +kernel
theorem dX12_frame_18 : decode cX12_frame 18 = .ok (.ifCond .eq 33, 3) := by decide +kernel
theorem dX12_frame_21 : decode cX12_frame 21 = .ok (.aload_n 0, 1) := by decide +kernel
theorem dX12_frame_22 : decode cX12_frame 22 = .ok (.iload_n 3, 1) := by decide +kernel
theorem dX12_frame_23 : decode cX12_frame 23 = .ok (.iconst 0, 1) := by decide +kernel
theorem dX12_frame_24 : decode cX12_frame 24 = .ok (.bipush 10, 2) := by decide +kernel
theorem dX12_frame_26 : decode cX12_frame 26 = .ok (.invokevirtual 230, 3) := by decide +kernel
theorem dX12_frame_29 : decode cX12_frame 29 = .ok (.ifCond .eq 22, 3) := by decide +kernel
theorem dX12_frame_32 : decode cX12_frame 32 = .ok (.aload_n 0, 1) := by decide +kernel
theorem dX12_frame_33 : decode cX12_frame 33 = .ok (.iload 4, 2) := by decide +kernel
theorem dX12_frame_35 : decode cX12_frame 35 = .ok (.sipush (-9999), 3) := by decide +kernel
theorem dX12_frame_38 : decode cX12_frame 38 = .ok (.sipush 9999, 3) := by decide +kernel
theorem dX12_frame_41 : decode cX12_frame 41 = .ok (.invokevirtual 230, 3) := by decide +kernel
theorem dX12_frame_44 : decode cX12_frame 44 = .ok (.ifCond .eq 7, 3) := by decide +kernel
theorem dX12_frame_47 : decode cX12_frame 47 = .ok (.iconst 0, 1) := by decide +kernel
theorem dX12_frame_48 : decode cX12_frame 48 = .ok (.goto 4, 3) := by decide +kernel
theorem dX12_frame_51 : decode cX12_frame 51 = .ok (.iconst 1, 1) := by decide +kernel
theorem dX12_frame_52 : decode cX12_frame 52 = .ok (.invokevirtual 512, 3) := by decide +kernel
theorem dX12_frame_55 : decode cX12_frame 55 = .ok (.ifCond .eq 5, 3) := by decide +kernel
theorem dX12_frame_58 : decode cX12_frame 58 = .ok (.iconst (-1), 1) := by decide +kernel
theorem dX12_frame_59 : decode cX12_frame 59 = .ok (.ireturn, 1) := by decide +kernel
theorem dX12_frame_60 : decode cX12_frame 60 = .ok (.aload_n 0, 1) := by decide +kernel
theorem dX12_frame_61 : decode cX12_frame 61 = .ok (.getfield 166, 3) := by decide +kernel
theorem dX12_frame_64 : decode cX12_frame 64 = .ok (.bipush 55, 2) := by decide +kernel
theorem dX12_frame_66 : decode cX12_frame 66 = .ok (.iload_n 1, 1) := by decide +kernel
theorem dX12_frame_67 : decode cX12_frame 67 = .ok (.imul, 1) := by decide +kernel
theorem dX12_frame_68 : decode cX12_frame 68 = .ok (.bipush 11, 2) := by decide +kernel
theorem dX12_frame_70 : decode cX12_frame 70 = .ok (.iload_n 2, 1) := by decide +kernel
theorem dX12_frame_71 : decode cX12_frame 71 = .ok (.imul, 1) := by decide +kernel
theorem dX12_frame_72 : decode cX12_frame 72 = .ok (.iadd, 1) := by decide +kernel
theorem dX12_frame_73 : decode cX12_frame 73 = .ok (.iload_n 3, 1) := by decide +kernel
theorem dX12_frame_74 : decode cX12_frame 74 = .ok (.iadd, 1) := by decide +kernel
theorem dX12_frame_75 : decode cX12_frame 75 = .ok (.iconst 1, 1) := by decide +kernel
theorem dX12_frame_76 : decode cX12_frame 76 = .ok (.iastore, 1) := by decide +kernel
theorem dX12_frame_77 : decode cX12_frame 77 = .ok (.aload_n 0, 1) := by decide +kernel
theorem dX12_frame_78 : decode cX12_frame 78 = .ok (.getfield 169, 3) := by decide +kernel
theorem dX12_frame_81 : decode cX12_frame 81 = .ok (.bipush 55, 2) := by decide +kernel
theorem dX12_frame_83 : decode cX12_frame 83 = .ok (.iload_n 1, 1) := by decide +kernel
theorem dX12_frame_84 : decode cX12_frame 84 = .ok (.imul, 1) := by decide +kernel
theorem dX12_frame_85 : decode cX12_frame 85 = .ok (.bipush 11, 2) := by decide +kernel
theorem dX12_frame_87 : decode cX12_frame 87 = .ok (.iload_n 2, 1) := by decide +kernel
theorem dX12_frame_88 : decode cX12_frame 88 = .ok (.imul, 1) := by decide +kernel
theorem dX12_frame_89 : decode cX12_frame 89 = .ok (.iadd, 1) := by decide +kernel
theorem dX12_frame_90 : decode cX12_frame 90 = .ok (.iload_n 3, 1) := by decide +kernel
theorem dX12_frame_91 : decode cX12_frame 91 = .ok (.iadd, 1) := by decide +kernel
theorem dX12_frame_92 : decode cX12_frame 92 = .ok (.iload 4, 2) := by decide +kernel
theorem dX12_frame_94 : decode cX12_frame 94 = .ok (.iastore, 1) := by decide +kernel
theorem dX12_frame_95 : decode cX12_frame 95 = .ok (.iconst 0, 1) := by decide +kernel
theorem dX12_frame_96 : decode cX12_frame 96 = .ok (.istore 5, 2) := by decide +kernel
theorem dX12_frame_98 : decode cX12_frame 98 = .ok (.iconst 0, 1) := by decide +kernel
theorem dX12_frame_99 : decode cX12_frame 99 = .ok (.istore 6, 2) := by decide +kernel
theorem dX12_frame_101 : decode cX12_frame 101 = .ok (.iload 6, 2) := by decide +kernel
theorem dX12_frame_103 : decode cX12_frame 103 = .ok (.bipush 55, 2) := by decide +kernel
theorem dX12_frame_105 : decode cX12_frame 105 = .ok (.if_icmp .ge 26, 3) := by decide +kernel
theorem dX12_frame_108 : decode cX12_frame 108 = .ok (.iload 5, 2) := by decide +kernel
theorem dX12_frame_110 : decode cX12_frame 110 = .ok (.aload_n 0, 1) := by decide +kernel
theorem dX12_frame_111 : decode cX12_frame 111 = .ok (.getfield 166, 3) := by decide +kernel
theorem dX12_frame_114 : decode cX12_frame 114 = .ok (.bipush 55, 2) := by decide +kernel
theorem dX12_frame_116 : decode cX12_frame 116 = .ok (.iload_n 1, 1) := by decide +kernel
theorem dX12_frame_117 : decode cX12_frame 117 = .ok (.imul, 1) := by decide +kernel
theorem dX12_frame_118 : decode cX12_frame 118 = .ok (.iload 6, 2) := by decide +kernel
theorem dX12_frame_120 : decode cX12_frame 120 = .ok (.iadd, 1) := by decide +kernel
theorem dX12_frame_121 : decode cX12_frame 121 = .ok (.iaload, 1) := by decide +kernel
theorem dX12_frame_122 : decode cX12_frame 122 = .ok (.iadd, 1) := by decide +kernel
theorem dX12_frame_123 : decode cX12_frame 123 = .ok (.istore 5, 2) := by decide +kernel
theorem dX12_frame_125 : decode cX12_frame 125 = .ok (.iinc 6 1, 3) := by decide +kernel
theorem dX12_frame_128 : decode cX12_frame 128 = .ok (.goto (-27), 3) := by decide +kernel
theorem dX12_frame_131 : decode cX12_frame 131 = .ok (.iload 5, 2) := by decide +kernel
theorem dX12_frame_133 : decode cX12_frame 133 = .ok (.ireturn, 1) := by decide +kernel
theorem dX12_listen_0 : decode cX12_listen 0 = .ok (.aload_n 0, 1) := by decide +kernel
theorem dX12_listen_1 : decode cX12_listen 1 = .ok (.aload_n 0, 1) := by decide +kernel
theorem dX12_listen_2 : decode cX12_listen 2 = .ok (.iload_n 1, 1) := by decide +kernel
theorem dX12_listen_3 : decode cX12_listen 3 = .ok (.invokevirtual 234, 3) := by decide +kernel
theorem dX12_listen_6 : decode cX12_listen 6 = .ok (.ifCond .eq 11, 3) := by decide +kernel
theorem dX12_listen_9 : decode cX12_listen 9 = .ok (.aload_n 0, 1) := by decide +kernel
theorem dX12_listen_10 : decode cX12_listen 10 = .ok (.iload_n 3, 1) := by decide +kernel
theorem dX12_listen_11 : decode cX12_listen 11 = .ok (.invokevirtual 234, 3) := by decide +kernel
theorem dX12_listen_14 : decode cX12_listen 14 = .ok (.ifCond .ne 7, 3) := by decide +kernel
theorem dX12_listen_17 : decode cX12_listen 17 = .ok (.iconst 1, 1) := by decide +kernel
theorem dX12_listen_18 : decode cX12_listen 18 = .ok (.goto 44, 3) := by decide +kernel
theorem dX12_listen_21 : decode cX12_listen 21 = .ok (.aload_n 0, 1) := by decide +kernel
theorem dX12_listen_22 : decode cX12_listen 22 = .ok (.iload_n 2, 1) := by decide +kernel
theorem dX12_listen_23 : decode cX12_listen 23 = .ok (.iconst 0, 1) := by decide +kernel
theorem dX12_listen_24 : decode cX12_listen 24 = .ok (.bipush 14, 2) := by decide +kernel
theorem dX12_listen_26 : decode cX12_listen 26 = .ok (.invokevirtual 230, 3) := by decide +kernel
theorem dX12_listen_29 : decode cX12_listen 29 = .ok (.ifCond .eq 15, 3) := by decide +kernel
theorem dX12_listen_32 : decode cX12_listen 32 = .ok (.aload_n 0, 1) := by decide +kernel
theorem dX12_listen_33 : decode cX12_listen 33 = .ok (.iload 4, 2) := by decide +kernel
theorem dX12_listen_35 : decode cX12_listen 35 = .ok (.iconst 0, 1) := by decide +kernel
theorem dX12_listen_36 : decode cX12_listen 36 = .ok (.bipush 7, 2) := by decide +kernel
theorem dX12_listen_38 : decode cX12_listen 38 = .ok (.invokevirtual 230, 3) := by decide +kernel
theorem dX12_listen_41 : decode cX12_listen 41 = .ok (.ifCond .ne 7, 3) := by decide +kernel
theorem dX12_listen_44 : decode cX12_listen 44 = .ok (.iconst 2, 1) := by decide +kernel
theorem dX12_listen_45 : decode cX12_listen 45 = .ok (.goto 17, 3) := by decide +kernel
theorem dX12_listen_48 : decode cX12_listen 48 = .ok (.aload_n 0, 1) := by decide +kernel
theorem dX12_listen_49 : decode cX12_listen 49 = .ok (.getfield 441, 3) := by decide +kernel
theorem dX12_listen_52 : decode cX12_listen 52 = .ok (.bipush 6, 2) := by decide +kernel
theorem dX12_listen_54 : decode cX12_listen 54 = .ok (.if_icmp .ne 7, 3) := by decide +kernel
theorem dX12_listen_57 : decode cX12_listen 57 = .ok (.iconst 3, 1) := by decide +kernel
theorem dX12_listen_58 : decode cX12_listen 58 = .ok (.goto 4, 3) := by decide +kernel
theorem dX12_listen_61 : decode cX12_listen 61 = .ok (.iconst 0, 1) := by decide +kernel
theorem dX12_listen_62 : decode cX12_listen 62 = .ok (.invokevirtual 512, 3) := by decide +kernel
theorem dX12_listen_65 : decode cX12_listen 65 = .ok (.ifCond .eq 5, 3) := by decide +kernel
theorem dX12_listen_68 : decode cX12_listen 68 = .ok (.iconst (-1), 1) := by decide +kernel
theorem dX12_listen_69 : decode cX12_listen 69 = .ok (.ireturn, 1) := by decide +kernel
theorem dX12_listen_70 : decode cX12_listen 70 = .ok (.aload_n 0, 1) := by decide +kernel
theorem dX12_listen_71 : decode cX12_listen 71 = .ok (.getfield 172, 3) := by decide +kernel
theorem dX12_listen_74 : decode cX12_listen 74 = .ok (.aload_n 0, 1) := by decide +kernel
theorem dX12_listen_75 : decode cX12_listen 75 = .ok (.getfield 441, 3) := by decide +kernel
theorem dX12_listen_78 : decode cX12_listen 78 = .ok (.iload_n 1, 1) := by decide +kernel
theorem dX12_listen_79 : decode cX12_listen 79 = .ok (.iastore, 1) := by decide +kernel
theorem dX12_listen_80 : decode cX12_listen 80 = .ok (.aload_n 0, 1) := by decide +kernel
theorem dX12_listen_81 : decode cX12_listen 81 = .ok (.getfield 175, 3) := by decide +kernel
theorem dX12_listen_84 : decode cX12_listen 84 = .ok (.aload_n 0, 1) := by decide +kernel
theorem dX12_listen_85 : decode cX12_listen 85 = .ok (.getfield 441, 3) := by decide +kernel
theorem dX12_listen_88 : decode cX12_listen 88 = .ok (.iload_n 2, 1) := by decide +kernel
theorem dX12_listen_89 : decode cX12_listen 89 = .ok (.iastore, 1) := by decide +kernel
theorem dX12_listen_90 : decode cX12_listen 90 = .ok (.aload_n 0, 1) := by decide +kernel
theorem dX12_listen_91 : decode cX12_listen 91 = .ok (.getfield 178, 3) := by decide +kernel
theorem dX12_listen_94 : decode cX12_listen 94 = .ok (.aload_n 0, 1) := by decide +kernel
theorem dX12_listen_95 : decode cX12_listen 95 = .ok (.getfield 441, 3) := by decide +kernel
theorem dX12_listen_98 : decode cX12_listen 98 = .ok (.iload_n 3, 1) := by decide +kernel
theorem dX12_listen_99 : decode cX12_listen 99 = .ok (.iastore, 1) := by decide +kernel
theorem dX12_listen_100 : decode cX12_listen 100 = .ok (.aload_n 0, 1) := by decide +kernel
theorem dX12_listen_101 : decode cX12_listen 101 = .ok (.getfield 181, 3) := by decide +kernel
theorem dX12_listen_104 : decode cX12_listen 104 = .ok (.aload_n 0, 1) := by decide +kernel
theorem dX12_listen_105 : decode cX12_listen 105 = .ok (.getfield 441, 3) := by decide +kernel
theorem dX12_listen_108 : decode cX12_listen 108 = .ok (.iload 4, 2) := by decide +kernel
theorem dX12_listen_110 : decode cX12_listen 110 = .ok (.iastore, 1) := by decide +kernel
theorem dX12_listen_111 : decode cX12_listen 111 = .ok (.aload_n 0, 1) := by decide +kernel
theorem dX12_listen_112 : decode cX12_listen 112 = .ok (.dup, 1) := by decide +kernel
theorem dX12_listen_113 : decode cX12_listen 113 = .ok (.getfield 441, 3) := by decide +kernel
theorem dX12_listen_116 : decode cX12_listen 116 = .ok (.iconst 1, 1) := by decide +kernel
theorem dX12_listen_117 : decode cX12_listen 117 = .ok (.iadd, 1) := by decide +kernel
theorem dX12_listen_118 : decode cX12_listen 118 = .ok (.putfield 441, 3) := by decide +kernel
theorem dX12_listen_121 : decode cX12_listen 121 = .ok (.aload_n 0, 1) := by decide +kernel
theorem dX12_listen_122 : decode cX12_listen 122 = .ok (.getfield 441, 3) := by decide +kernel
theorem dX12_listen_125 : decode cX12_listen 125 = .ok (.iconst 1, 1) := by decide +kernel
theorem dX12_listen_126 : decode cX12_listen 126 = .ok (.isub, 1) := by decide +kernel
theorem dX12_listen_127 : decode cX12_listen 127 = .ok (.ireturn, 1) := by decide +kernel
-- isRule(I)Z
def f_isRule (x1 : Int32) (σ : mS) : Option (Int32) := (f_in (x1) ((0:Int32)) (((σ.2 36) - (1:Int32)))).bind (fun v1 => rz v1)
set_option maxRecDepth 20000 in
set_option maxHeartbeats 4000000 in
theorem K_isRule (l : Launch) (D : mD) (mb : Nat) (σ : mS) (x1 : Int32) {r : Int32} (h : f_isRule x1 σ = some r) : Met l yX12_isRule (Cond.code yX12_isRule cX12_isRule 2 (some .boolean) :: BG) (rM 1 23) (mPc D mb σ [.int x1]) (mQr (some (.int r))) 0 0 (fun _ => False) := by
  refine Met.ofW (cc := cX12_isRule) (maxL := 2) (ret := (some .boolean)) (by decide) rfl ?_
  intro p e s m args below meth c s₁ B hml hv
  obtain ⟨rfl, hP, hK⟩ := hv
  have X := mX_of B hml rfl hK
  have hx := X.1
  have hb := X.2.1
  have hown := X.2.2.2.1
  have hts := X.2.2.2.2.1
  have hl := lv_entry (.ref mb :: [.int x1]) (n := 2) (Nat.le_of_ble_eq_true rfl)
  rw [lg_entry_eq]
  generalize (lg_sl (.ref mb :: [.int x1]) ++ List.replicate (2 - (lg_sl (.ref mb :: [.int x1])).length) Slot.unset).toArray = ls at hl ⊢
  have hl : lv_has ls 2 [(0, .ref mb), (1, .int x1)] := hl
  show mWr p l e 1 23 s m (Value.ref mb :: [.int x1]).toArray below meth c (some (.int r)) (F0 m 0 ls [])
  have h : ((f_in (x1) ((0:Int32)) (((σ.2 36) - (1:Int32)))).bind (fun v1 => rz v1)) = some r := h
  refine lv_aload_n hx hb dX12_isRule_0 rfl (lv_at hl 0 rfl) ?_
  refine lv_iload_n hx hb dX12_isRule_1 rfl (lv_at hl 1 rfl) ?_
  refine lv_iconst (v := (0:Int32)) hx hb dX12_isRule_2 (by decide) ?_
  refine lv_aload_n hx hb dX12_isRule_3 rfl (lv_at hl 0 rfl) ?_
  refine mg_rules X hP dX12_isRule_4 ?_
  refine lv_iconst (v := (1:Int32)) hx hb dX12_isRule_7 (by decide) ?_
  refine lv_isub hx hb dX12_isRule_8 ?_
  obtain ⟨v1, hv1, h⟩ := ob h
  refine cl_in X hP hv1 ⟨Nat.le_of_ble_eq_true rfl, Nat.le_of_ble_eq_true rfl⟩ hl.1 (Nat.le_of_ble_eq_true rfl) dX12_isRule_9 ?_
  obtain ⟨hz, rfl⟩ := rz_spec h
  exact m_rz X hz dX12_isRule_12
theorem cl_isRule {p : Program} {l : Launch} {e : Env} {s : State} {m : MethodId} {args : Array Value} {below : List Frame} {meth : Method} {c : Code} {D : mD} {mb : Nat} {H : Heap} {locs : List Loc} {Q : State → Prop} {cc : ByteArray} {pc fR lR nL : Nat} {ls : Array Slot} {rest : List Value} {ret : Option FieldType} {σ : mS} (X : mX p s m args meth c cc nL ret D) (hP : mP D mb σ H) {x1 : Int32} {r : Int32} (h : f_isRule x1 σ = some r) (hr : 1 + 1 ≤ fR ∧ 8 + (2 + 11) + 23 ≤ lR) (hl : ls.size = nL) (hW : (rest.map fun v => v.category).sum ≤ 8) (hdg : decode cc pc = .ok (.invokevirtual 540, 3)) (kk : W p l e (rM fR lR) s m args below meth c H locs 0 0 Q (F0 m (pc + 3) ls (.int r :: rest))) : W p l e (rM fR lR) s m args below meth c H locs 0 0 Q (F0 m pc ls (.int x1 :: .ref mb :: rest)) := m_cr (m_run (n := 1) X (K_isRule l D mb σ x1 h) ⟨w_2087, w_2089, w_97, w_2090⟩ (hyX rfl (by decide +kernel)) rfl hr hP hl hW hdg rfl) kk
-- when(III)V
def f_when_66   (σ : mS) : Option (mS) := some σ
def f_when_42  (x1 : Int32) (x2 : Int32) (x3 : Int32) (y1 : Int32) (σ : mS) : Option (mS) := (f_holds (y1) σ).bind (fun v1 => if v1.1 = (0:Int32) then ((wr v1.2 34 x1 x2).bind (fun s2 => (wr s2 35 x1 x3).bind (fun s3 => (f_markAll  s3).bind (fun v4 => f_when_66 v4)))) else (f_when_66 v1.2))
def f_when_41  (x1 : Int32) (x2 : Int32) (x3 : Int32) (σ : mS) : Option (mS) := f_when_42 (x1) (x2) (x3) ((2:Int32)) σ
def f_when (x1 : Int32) (x2 : Int32) (x3 : Int32) (σ : mS) : Option (mS) := (f_isRule (x1) σ).bind (fun v1 => if v1 = (0:Int32) then (f_when_42 (x1) (x2) (x3) ((1:Int32)) σ) else ((f_in (x2) (((-1):Int32)) ((4:Int32))).bind (fun v2 => if v2 = (0:Int32) then (f_when_41 (x1) (x2) (x3) σ) else ((f_in (x3) (((-9999):Int32)) ((9999:Int32))).bind (fun v3 => if v3 = (0:Int32) then (f_when_41 (x1) (x2) (x3) σ) else (f_when_42 (x1) (x2) (x3) ((0:Int32)) σ))))))
set_option maxRecDepth 20000 in
set_option maxHeartbeats 4000000 in
theorem N_when_66 {p : Program} {l : Launch} {e : Env} {s : State} {m : MethodId} {args : Array Value} {below : List Frame} {meth : Method} {c : Code} {D : mD} {mb : Nat}    {σ : mS} {H : Heap} {locs : List Loc} {ls : Array Slot} {q : mS} (X : mX p s m args meth c cX12_when 4 none D) (hP : mP D mb σ H) (hF : mF mb s.heap H locs)  (hl : lv_has ls 4 [(0, .ref mb)]) (h : f_when_66   σ = some q) : mWw p l e 5 108 s m args below meth c D mb q none H locs (F0 m 66 ls []) := by
  have hx := X.1
  have hb := X.2.1
  have hown := X.2.2.2.1
  have hts := X.2.2.2.2.1
  have h : (some σ) = some q := h
  obtain rfl := sj h
  exact m_wv X hP hF dX12_when_66
set_option maxRecDepth 20000 in
set_option maxHeartbeats 4000000 in
theorem N_when_42 {p : Program} {l : Launch} {e : Env} {s : State} {m : MethodId} {args : Array Value} {below : List Frame} {meth : Method} {c : Code} {D : mD} {mb : Nat}   {x1 : Int32} {x2 : Int32} {x3 : Int32} {y1 : Int32} {σ : mS} {H : Heap} {locs : List Loc} {ls : Array Slot} {q : mS} (X : mX p s m args meth c cX12_when 4 none D) (hP : mP D mb σ H) (hF : mF mb s.heap H locs)  (hl : lv_has ls 4 [(0, .ref mb), (1, .int x1), (2, .int x2), (3, .int x3)]) (h : f_when_42  x1 x2 x3 y1 σ = some q) : mWw p l e 5 108 s m args below meth c D mb q none H locs (F0 m 42 ls [.int y1, .ref mb]) := by
  have hx := X.1
  have hb := X.2.1
  have hown := X.2.2.2.1
  have hts := X.2.2.2.2.1
  have h : ((f_holds (y1) σ).bind (fun v1 => if v1.1 = (0:Int32) then ((wr v1.2 34 x1 x2).bind (fun s2 => (wr s2 35 x1 x3).bind (fun s3 => (f_markAll  s3).bind (fun v4 => f_when_66 v4)))) else (f_when_66 v1.2))) = some q := h
  obtain ⟨v1, hv1, h⟩ := ob h
  refine cl_holds X hP hF hv1 ⟨Nat.le_of_ble_eq_true rfl, Nat.le_of_ble_eq_true rfl⟩ hl.1 (Nat.le_of_ble_eq_true rfl) dX12_when_42 (fun H locs hP hF => ?_)
  refine lv_if_ne (tgt := 66) hx hb dX12_when_45 rfl (fun hc => ?_) (fun hc => ?_)
  · have h := ine hc h
    exact N_when_66 X hP hF (lv_sub hl [0] rfl) h
  · have h := ip hc h
    refine lv_aload_n hx hb dX12_when_48 rfl (lv_at hl 0 rfl) ?_
    refine mg_rc X hP dX12_when_49 ?_
    refine lv_iload_n hx hb dX12_when_52 rfl (lv_at hl 1 rfl) ?_
    refine lv_iload_n hx hb dX12_when_53 rfl (lv_at hl 2 rfl) ?_
    obtain ⟨s2, hs2, h⟩ := ob h
    refine m_ast X hP hF hs2 dX12_when_54 (fun H locs hP hF => ?_)
    refine lv_aload_n hx hb dX12_when_55 rfl (lv_at hl 0 rfl) ?_
    refine mg_rn X hP dX12_when_56 ?_
    refine lv_iload_n hx hb dX12_when_59 rfl (lv_at hl 1 rfl) ?_
    refine lv_iload_n hx hb dX12_when_60 rfl (lv_at hl 3 rfl) ?_
    obtain ⟨s3, hs3, h⟩ := ob h
    refine m_ast X hP hF hs3 dX12_when_61 (fun H locs hP hF => ?_)
    refine lv_aload_n hx hb dX12_when_62 rfl (lv_at hl 0 rfl) ?_
    obtain ⟨v4, hv4, h⟩ := ob h
    refine cl_markAll X hP hF hv4 ⟨Nat.le_of_ble_eq_true rfl, Nat.le_of_ble_eq_true rfl⟩ hl.1 (Nat.le_of_ble_eq_true rfl) dX12_when_63 (fun H locs hP hF => ?_)
    exact N_when_66 X hP hF (lv_sub hl [0] rfl) h
set_option maxRecDepth 20000 in
set_option maxHeartbeats 4000000 in
theorem N_when_41 {p : Program} {l : Launch} {e : Env} {s : State} {m : MethodId} {args : Array Value} {below : List Frame} {meth : Method} {c : Code} {D : mD} {mb : Nat}   {x1 : Int32} {x2 : Int32} {x3 : Int32} {σ : mS} {H : Heap} {locs : List Loc} {ls : Array Slot} {q : mS} (X : mX p s m args meth c cX12_when 4 none D) (hP : mP D mb σ H) (hF : mF mb s.heap H locs)  (hl : lv_has ls 4 [(0, .ref mb), (1, .int x1), (2, .int x2), (3, .int x3)]) (h : f_when_41  x1 x2 x3 σ = some q) : mWw p l e 5 108 s m args below meth c D mb q none H locs (F0 m 41 ls [.ref mb]) := by
  have hx := X.1
  have hb := X.2.1
  have hown := X.2.2.2.1
  have hts := X.2.2.2.2.1
  have h : (f_when_42 (x1) (x2) (x3) ((2:Int32)) σ) = some q := h
  refine lv_iconst (v := (2:Int32)) hx hb dX12_when_41 (by decide) ?_
  exact N_when_42 X hP hF (lv_sub hl [0, 1, 2, 3] rfl) h
set_option maxRecDepth 20000 in
set_option maxHeartbeats 4000000 in
theorem K_when (l : Launch) (D : mD) (mb : Nat) (σ : mS) (x1 : Int32) (x2 : Int32) (x3 : Int32) {q : mS} (h : f_when x1 x2 x3 σ = some q) : Met l yX12_when (Cond.code yX12_when cX12_when 4 none :: BG) (rM 5 108) (mPc D mb σ [.int x1, .int x2, .int x3]) (mQw D mb q none) 0 0 (mReg mb) := by
  refine Met.ofW (cc := cX12_when) (maxL := 4) (ret := none) (by decide) rfl ?_
  intro p e s m args below meth c s₁ B hml hv
  obtain ⟨rfl, hP, hK⟩ := hv
  have X := mX_of B hml rfl hK
  have hx := X.1
  have hb := X.2.1
  have hown := X.2.2.2.1
  have hts := X.2.2.2.2.1
  have hl := lv_entry (.ref mb :: [.int x1, .int x2, .int x3]) (n := 4) (Nat.le_of_ble_eq_true rfl)
  rw [lg_entry_eq]
  generalize (lg_sl (.ref mb :: [.int x1, .int x2, .int x3]) ++ List.replicate (4 - (lg_sl (.ref mb :: [.int x1, .int x2, .int x3])).length) Slot.unset).toArray = ls at hl ⊢
  have hl : lv_has ls 4 [(0, .ref mb), (1, .int x1), (2, .int x2), (3, .int x3)] := hl
  have hF : mF mb s.heap s.heap [] := mF.rf
  show mWw p l e 5 108 s m (Value.ref mb :: [.int x1, .int x2, .int x3]).toArray below meth c D mb q none s.heap [] (F0 m 0 ls [])
  have h : ((f_isRule (x1) σ).bind (fun v1 => if v1 = (0:Int32) then (f_when_42 (x1) (x2) (x3) ((1:Int32)) σ) else ((f_in (x2) (((-1):Int32)) ((4:Int32))).bind (fun v2 => if v2 = (0:Int32) then (f_when_41 (x1) (x2) (x3) σ) else ((f_in (x3) (((-9999):Int32)) ((9999:Int32))).bind (fun v3 => if v3 = (0:Int32) then (f_when_41 (x1) (x2) (x3) σ) else (f_when_42 (x1) (x2) (x3) ((0:Int32)) σ))))))) = some q := h
  refine lv_aload_n hx hb dX12_when_0 rfl (lv_at hl 0 rfl) ?_
  refine lv_aload_n hx hb dX12_when_1 rfl (lv_at hl 0 rfl) ?_
  refine lv_iload_n hx hb dX12_when_2 rfl (lv_at hl 1 rfl) ?_
  obtain ⟨v1, hv1, h⟩ := ob h
  refine cl_isRule X hP hv1 ⟨Nat.le_of_ble_eq_true rfl, Nat.le_of_ble_eq_true rfl⟩ hl.1 (Nat.le_of_ble_eq_true rfl) dX12_when_3 ?_
  refine lv_if_ne (tgt := 13) hx hb dX12_when_6 rfl (fun hc => ?_) (fun hc => ?_)
  · have h := ine hc h
    refine lv_aload_n hx hb dX12_when_13 rfl (lv_at hl 0 rfl) ?_
    refine lv_iload_n hx hb dX12_when_14 rfl (lv_at hl 2 rfl) ?_
    refine lv_iconst (v := ((-1):Int32)) hx hb dX12_when_15 (by decide) ?_
    refine lv_iconst (v := (4:Int32)) hx hb dX12_when_16 (by decide) ?_
    obtain ⟨v2, hv2, h⟩ := ob h
    refine cl_in X hP hv2 ⟨Nat.le_of_ble_eq_true rfl, Nat.le_of_ble_eq_true rfl⟩ hl.1 (Nat.le_of_ble_eq_true rfl) dX12_when_17 ?_
    refine lv_if_eq (tgt := 41) hx hb dX12_when_20 rfl (fun hc => ?_) (fun hc => ?_)
    · have h := ip hc h
      exact N_when_41 X hP hF (lv_sub hl [0, 1, 2, 3] rfl) h
    · have h := ine hc h
      refine lv_aload_n hx hb dX12_when_23 rfl (lv_at hl 0 rfl) ?_
      refine lv_iload_n hx hb dX12_when_24 rfl (lv_at hl 3 rfl) ?_
      refine lv_sipush (v := ((-9999):Int32)) hx hb dX12_when_25 (by decide) ?_
      refine lv_sipush (v := (9999:Int32)) hx hb dX12_when_28 (by decide) ?_
      obtain ⟨v3, hv3, h⟩ := ob h
      refine cl_in X hP hv3 ⟨Nat.le_of_ble_eq_true rfl, Nat.le_of_ble_eq_true rfl⟩ hl.1 (Nat.le_of_ble_eq_true rfl) dX12_when_31 ?_
      refine lv_if_eq (tgt := 41) hx hb dX12_when_34 rfl (fun hc => ?_) (fun hc => ?_)
      · have h := ip hc h
        exact N_when_41 X hP hF (lv_sub hl [0, 1, 2, 3] rfl) h
      · have h := ine hc h
        refine lv_iconst (v := (0:Int32)) hx hb dX12_when_37 (by decide) ?_
        refine lv_goto (tgt := 42) hx hb dX12_when_38 rfl ?_
        exact N_when_42 X hP hF (lv_sub hl [0, 1, 2, 3] rfl) h
  · have h := ip hc h
    refine lv_iconst (v := (1:Int32)) hx hb dX12_when_9 (by decide) ?_
    refine lv_goto (tgt := 42) hx hb dX12_when_10 rfl ?_
    exact N_when_42 X hP hF (lv_sub hl [0, 1, 2, 3] rfl) h
-- rowOf(I)I
def f_rowOf_43  (y0 : Int32) (σ : mS) : Option (Int32) := some y0
def f_rowOf_42   (σ : mS) : Option (Int32) := f_rowOf_43 (((-1):Int32)) σ
def f_rowOf (x1 : Int32) (σ : mS) : Option (Int32) := (f_isRule (x1) σ).bind (fun v1 => if v1 = (0:Int32) then (if x1 < (100:Int32) then (f_rowOf_42 σ) else ((f_isElement ((x1 - (100:Int32))) σ).bind (fun v2 => if v2 = (0:Int32) then (f_rowOf_42 σ) else (f_rowOf_43 (((16:Int32) * (x1 - (60:Int32)))) σ)))) else (f_rowOf_43 (((16:Int32) * x1)) σ))
set_option maxRecDepth 20000 in
set_option maxHeartbeats 4000000 in
theorem N_rowOf_43 {p : Program} {l : Launch} {e : Env} {s : State} {m : MethodId} {args : Array Value} {below : List Frame} {meth : Method} {c : Code} {D : mD} {mb : Nat}   {y0 : Int32} {σ : mS} {ls : Array Slot} {r : Int32} (X : mX p s m args meth c cX12_rowOf 2 (some .int) D) (hP : mP D mb σ s.heap)  (hl : lv_has ls 2 [(0, .ref mb)]) (h : f_rowOf_43  y0 σ = some r) : mWr p l e 2 44 s m args below meth c (some (.int r)) (F0 m 43 ls [.int y0]) := by
  have hx := X.1
  have hb := X.2.1
  have hown := X.2.2.2.1
  have hts := X.2.2.2.2.1
  have h : (some y0) = some r := h
  obtain rfl := sj h
  exact m_ri X dX12_rowOf_43
set_option maxRecDepth 20000 in
set_option maxHeartbeats 4000000 in
theorem N_rowOf_42 {p : Program} {l : Launch} {e : Env} {s : State} {m : MethodId} {args : Array Value} {below : List Frame} {meth : Method} {c : Code} {D : mD} {mb : Nat}    {σ : mS} {ls : Array Slot} {r : Int32} (X : mX p s m args meth c cX12_rowOf 2 (some .int) D) (hP : mP D mb σ s.heap)  (hl : lv_has ls 2 [(0, .ref mb)]) (h : f_rowOf_42   σ = some r) : mWr p l e 2 44 s m args below meth c (some (.int r)) (F0 m 42 ls []) := by
  have hx := X.1
  have hb := X.2.1
  have hown := X.2.2.2.1
  have hts := X.2.2.2.2.1
  have h : (f_rowOf_43 (((-1):Int32)) σ) = some r := h
  refine lv_iconst (v := ((-1):Int32)) hx hb dX12_rowOf_42 (by decide) ?_
  exact N_rowOf_43 X hP (lv_sub hl [0] rfl) h
set_option maxRecDepth 20000 in
set_option maxHeartbeats 4000000 in
theorem K_rowOf (l : Launch) (D : mD) (mb : Nat) (σ : mS) (x1 : Int32) {r : Int32} (h : f_rowOf x1 σ = some r) : Met l yX12_rowOf (Cond.code yX12_rowOf cX12_rowOf 2 (some .int) :: BG) (rM 2 44) (mPc D mb σ [.int x1]) (mQr (some (.int r))) 0 0 (fun _ => False) := by
  refine Met.ofW (cc := cX12_rowOf) (maxL := 2) (ret := (some .int)) (by decide) rfl ?_
  intro p e s m args below meth c s₁ B hml hv
  obtain ⟨rfl, hP, hK⟩ := hv
  have X := mX_of B hml rfl hK
  have hx := X.1
  have hb := X.2.1
  have hown := X.2.2.2.1
  have hts := X.2.2.2.2.1
  have hl := lv_entry (.ref mb :: [.int x1]) (n := 2) (Nat.le_of_ble_eq_true rfl)
  rw [lg_entry_eq]
  generalize (lg_sl (.ref mb :: [.int x1]) ++ List.replicate (2 - (lg_sl (.ref mb :: [.int x1])).length) Slot.unset).toArray = ls at hl ⊢
  have hl : lv_has ls 2 [(0, .ref mb), (1, .int x1)] := hl
  show mWr p l e 2 44 s m (Value.ref mb :: [.int x1]).toArray below meth c (some (.int r)) (F0 m 0 ls [])
  have h : ((f_isRule (x1) σ).bind (fun v1 => if v1 = (0:Int32) then (if x1 < (100:Int32) then (f_rowOf_42 σ) else ((f_isElement ((x1 - (100:Int32))) σ).bind (fun v2 => if v2 = (0:Int32) then (f_rowOf_42 σ) else (f_rowOf_43 (((16:Int32) * (x1 - (60:Int32)))) σ)))) else (f_rowOf_43 (((16:Int32) * x1)) σ))) = some r := h
  refine lv_aload_n hx hb dX12_rowOf_0 rfl (lv_at hl 0 rfl) ?_
  refine lv_iload_n hx hb dX12_rowOf_1 rfl (lv_at hl 1 rfl) ?_
  obtain ⟨v1, hv1, h⟩ := ob h
  refine cl_isRule X hP hv1 ⟨Nat.le_of_ble_eq_true rfl, Nat.le_of_ble_eq_true rfl⟩ hl.1 (Nat.le_of_ble_eq_true rfl) dX12_rowOf_2 ?_
  refine lv_if_eq (tgt := 15) hx hb dX12_rowOf_5 rfl (fun hc => ?_) (fun hc => ?_)
  · have h := ip hc h
    refine lv_iload_n hx hb dX12_rowOf_15 rfl (lv_at hl 1 rfl) ?_
    refine lv_bipush (v := (100:Int32)) hx hb dX12_rowOf_16 (by decide) ?_
    refine lv_icmp_lt (tgt := 42) hx hb dX12_rowOf_18 rfl (fun hc => ?_) (fun hc => ?_)
    · have h := ip hc h
      exact N_rowOf_42 X hP (lv_sub hl [0] rfl) h
    · have h := ine hc h
      refine lv_aload_n hx hb dX12_rowOf_21 rfl (lv_at hl 0 rfl) ?_
      refine lv_iload_n hx hb dX12_rowOf_22 rfl (lv_at hl 1 rfl) ?_
      refine lv_bipush (v := (100:Int32)) hx hb dX12_rowOf_23 (by decide) ?_
      refine lv_isub hx hb dX12_rowOf_25 ?_
      obtain ⟨v2, hv2, h⟩ := ob h
      refine cl_isElement X hP hv2 ⟨Nat.le_of_ble_eq_true rfl, Nat.le_of_ble_eq_true rfl⟩ hl.1 (Nat.le_of_ble_eq_true rfl) dX12_rowOf_26 ?_
      refine lv_if_eq (tgt := 42) hx hb dX12_rowOf_29 rfl (fun hc => ?_) (fun hc => ?_)
      · have h := ip hc h
        exact N_rowOf_42 X hP (lv_sub hl [0] rfl) h
      · have h := ine hc h
        refine lv_bipush (v := (16:Int32)) hx hb dX12_rowOf_32 (by decide) ?_
        refine lv_iload_n hx hb dX12_rowOf_34 rfl (lv_at hl 1 rfl) ?_
        refine lv_bipush (v := (60:Int32)) hx hb dX12_rowOf_35 (by decide) ?_
        refine lv_isub hx hb dX12_rowOf_37 ?_
        refine lv_imul hx hb dX12_rowOf_38 ?_
        refine lv_goto (tgt := 43) hx hb dX12_rowOf_39 rfl ?_
        exact N_rowOf_43 X hP (lv_sub hl [0] rfl) h
  · have h := ine hc h
    refine lv_bipush (v := (16:Int32)) hx hb dX12_rowOf_8 (by decide) ?_
    refine lv_iload_n hx hb dX12_rowOf_10 rfl (lv_at hl 1 rfl) ?_
    refine lv_imul hx hb dX12_rowOf_11 ?_
    refine lv_goto (tgt := 43) hx hb dX12_rowOf_12 rfl ?_
    exact N_rowOf_43 X hP (lv_sub hl [0] rfl) h
theorem cl_rowOf {p : Program} {l : Launch} {e : Env} {s : State} {m : MethodId} {args : Array Value} {below : List Frame} {meth : Method} {c : Code} {D : mD} {mb : Nat} {H : Heap} {locs : List Loc} {Q : State → Prop} {cc : ByteArray} {pc fR lR nL : Nat} {ls : Array Slot} {rest : List Value} {ret : Option FieldType} {σ : mS} (X : mX p s m args meth c cc nL ret D) (hP : mP D mb σ H) {x1 : Int32} {r : Int32} (h : f_rowOf x1 σ = some r) (hr : 2 + 1 ≤ fR ∧ 8 + (2 + 11) + 44 ≤ lR) (hl : ls.size = nL) (hW : (rest.map fun v => v.category).sum ≤ 8) (hdg : decode cc pc = .ok (.invokevirtual 546, 3)) (kk : W p l e (rM fR lR) s m args below meth c H locs 0 0 Q (F0 m (pc + 3) ls (.int r :: rest))) : W p l e (rM fR lR) s m args below meth c H locs 0 0 Q (F0 m pc ls (.int x1 :: .ref mb :: rest)) := m_cr (m_run (n := 1) X (K_rowOf l D mb σ x1 h) ⟨w_2095, w_2097, w_98, w_2098⟩ (hyX rfl (by decide +kernel)) rfl hr hP hl hW hdg rfl) kk
-- declared(I)I
def f_declared_27 (k4 : Int32 → Int32 → Int32 → Option (Int32)) (x1 : Int32) (x3 : Int32) (y0 : Int32) (y1 : Int32) (σ : mS) : Option (Int32) := k4 (x1) ((y0 + y1)) ((x3 + (1:Int32)))
def f_declared_4  : Nat → Int32 → Int32 → Int32 → mS → Option (Int32)
  | 0, _, _, _, _ => none
  | n + 1, x1, x2, x3, σ => if (15:Int32) ≤ x3 then (some x2) else ((rd σ 37 (x1 + x3)).bind (fun v1 => if v1 < (0:Int32) then (f_declared_27 (fun z0 z1 z2 => f_declared_4 n z0 z1 z2 σ) (x1) (x3) (x2) ((0:Int32)) σ) else (f_declared_27 (fun z0 z1 z2 => f_declared_4 n z0 z1 z2 σ) (x1) (x3) (x2) ((1:Int32)) σ)))
def f_declared (x1 : Int32) (σ : mS) : Option (Int32) := f_declared_4 4000 (x1) ((0:Int32)) ((0:Int32)) σ
set_option maxRecDepth 20000 in
set_option maxHeartbeats 4000000 in
theorem N_declared_27 {p : Program} {l : Launch} {e : Env} {s : State} {m : MethodId} {args : Array Value} {below : List Frame} {meth : Method} {c : Code} {D : mD} {mb : Nat} {k4 : Int32 → Int32 → Int32 → Option (Int32)}  {x1 : Int32} {x3 : Int32} {y0 : Int32} {y1 : Int32} {σ : mS} {ls : Array Slot} {r : Int32} (X : mX p s m args meth c cX12_declared 4 (some .int) D) (hP : mP D mb σ s.heap) (hk4 : ∀ {x1 : Int32} {x2 : Int32} {x3 : Int32} {ls : Array Slot}, lv_has ls 4 [(0, .ref mb), (1, .int x1), (2, .int x2), (3, .int x3)] → k4 x1 x2 x3 = some r → mWr p l e 0 0 s m args below meth c (some (.int r)) (F0 m 4 ls [])) (hl : lv_has ls 4 [(0, .ref mb), (1, .int x1), (3, .int x3)]) (h : f_declared_27 k4 x1 x3 y0 y1 σ = some r) : mWr p l e 0 0 s m args below meth c (some (.int r)) (F0 m 27 ls [.int y1, .int y0]) := by
  have hx := X.1
  have hb := X.2.1
  have hown := X.2.2.2.1
  have hts := X.2.2.2.2.1
  have h : (k4 (x1) ((y0 + y1)) ((x3 + (1:Int32)))) = some r := h
  refine lv_iadd hx hb dX12_declared_27 ?_
  refine lv_istore_n hx hb dX12_declared_28 rfl hl (Nat.le_of_ble_eq_true rfl) rfl (fun ls (hl : lv_has ls 4 [(2, .int (y0 + y1)), (0, .ref mb), (1, .int x1), (3, .int x3)]) => ?_)
  refine lv_iinc (v := (x3 + (1:Int32))) hx hb dX12_declared_29 hl (k := 3) rfl rfl (Nat.le_of_ble_eq_true rfl) rfl (fun ls (hl : lv_has ls 4 [(3, .int (x3 + (1:Int32))), (2, .int (y0 + y1)), (0, .ref mb), (1, .int x1)]) => ?_)
  refine lv_goto (tgt := 4) hx hb dX12_declared_32 rfl ?_
  exact hk4 (lv_sub hl [2, 3, 1, 0] rfl) h
set_option maxRecDepth 20000 in
set_option maxHeartbeats 4000000 in
theorem N_declared_4 {p : Program} {l : Launch} {e : Env} {s : State} {m : MethodId} {args : Array Value} {below : List Frame} {meth : Method} {c : Code} {D : mD} {mb : Nat}  {n : Nat} {x1 : Int32} {x2 : Int32} {x3 : Int32} {σ : mS} {ls : Array Slot} {r : Int32} (X : mX p s m args meth c cX12_declared 4 (some .int) D) (hP : mP D mb σ s.heap)  (hl : lv_has ls 4 [(0, .ref mb), (1, .int x1), (2, .int x2), (3, .int x3)]) (h : f_declared_4  n x1 x2 x3 σ = some r) : mWr p l e 0 0 s m args below meth c (some (.int r)) (F0 m 4 ls []) := by
  have hx := X.1
  have hb := X.2.1
  have hown := X.2.2.2.1
  have hts := X.2.2.2.2.1
  induction n generalizing x1 x2 x3 ls with
  | zero => exact absurd (show none = some r from h) (by simp)
  | succ n ih =>
    have h : (if (15:Int32) ≤ x3 then (some x2) else ((rd σ 37 (x1 + x3)).bind (fun v1 => if v1 < (0:Int32) then (f_declared_27 (fun z0 z1 z2 => f_declared_4 n z0 z1 z2 σ) (x1) (x3) (x2) ((0:Int32)) σ) else (f_declared_27 (fun z0 z1 z2 => f_declared_4 n z0 z1 z2 σ) (x1) (x3) (x2) ((1:Int32)) σ)))) = some r := h
    refine lv_iload_n hx hb dX12_declared_4 rfl (lv_at hl 3 rfl) ?_
    refine lv_bipush (v := (15:Int32)) hx hb dX12_declared_5 (by decide) ?_
    refine lv_icmp_ge (tgt := 35) hx hb dX12_declared_7 rfl (fun hc => ?_) (fun hc => ?_)
    · have h := ip hc h
      refine lv_iload_n hx hb dX12_declared_35 rfl (lv_at hl 2 rfl) ?_
      obtain rfl := sj h
      exact m_ri X dX12_declared_36
    · have h := ine hc h
      refine lv_iload_n hx hb dX12_declared_10 rfl (lv_at hl 2 rfl) ?_
      refine lv_aload_n hx hb dX12_declared_11 rfl (lv_at hl 0 rfl) ?_
      refine mg_du X hP dX12_declared_12 ?_
      refine lv_iload_n hx hb dX12_declared_15 rfl (lv_at hl 1 rfl) ?_
      refine lv_iload_n hx hb dX12_declared_16 rfl (lv_at hl 3 rfl) ?_
      refine lv_iadd hx hb dX12_declared_17 ?_
      obtain ⟨v1, hv1, h⟩ := ob h
      refine m_ald X hP hv1 dX12_declared_18 ?_
      refine lv_if_lt (tgt := 26) hx hb dX12_declared_19 rfl (fun hc => ?_) (fun hc => ?_)
      · have h := ip hc h
        refine lv_iconst (v := (0:Int32)) hx hb dX12_declared_26 (by decide) ?_
        exact N_declared_27 X hP ih (lv_sub hl [0, 1, 3] rfl) h
      · have h := ine hc h
        refine lv_iconst (v := (1:Int32)) hx hb dX12_declared_22 (by decide) ?_
        refine lv_goto (tgt := 27) hx hb dX12_declared_23 rfl ?_
        exact N_declared_27 X hP ih (lv_sub hl [0, 1, 3] rfl) h
set_option maxRecDepth 20000 in
set_option maxHeartbeats 4000000 in
theorem K_declared (l : Launch) (D : mD) (mb : Nat) (σ : mS) (x1 : Int32) {r : Int32} (h : f_declared x1 σ = some r) : Met l yX12_declared (Cond.code yX12_declared cX12_declared 4 (some .int) :: BG) (rM 0 0) (mPc D mb σ [.int x1]) (mQr (some (.int r))) 0 0 (fun _ => False) := by
  refine Met.ofW (cc := cX12_declared) (maxL := 4) (ret := (some .int)) (by decide) rfl ?_
  intro p e s m args below meth c s₁ B hml hv
  obtain ⟨rfl, hP, hK⟩ := hv
  have X := mX_of B hml rfl hK
  have hx := X.1
  have hb := X.2.1
  have hown := X.2.2.2.1
  have hts := X.2.2.2.2.1
  have hl := lv_entry (.ref mb :: [.int x1]) (n := 4) (Nat.le_of_ble_eq_true rfl)
  rw [lg_entry_eq]
  generalize (lg_sl (.ref mb :: [.int x1]) ++ List.replicate (4 - (lg_sl (.ref mb :: [.int x1])).length) Slot.unset).toArray = ls at hl ⊢
  have hl : lv_has ls 4 [(0, .ref mb), (1, .int x1)] := hl
  show mWr p l e 0 0 s m (Value.ref mb :: [.int x1]).toArray below meth c (some (.int r)) (F0 m 0 ls [])
  have h : (f_declared_4 4000 (x1) ((0:Int32)) ((0:Int32)) σ) = some r := h
  refine lv_iconst (v := (0:Int32)) hx hb dX12_declared_0 (by decide) ?_
  refine lv_istore_n hx hb dX12_declared_1 rfl hl (Nat.le_of_ble_eq_true rfl) rfl (fun ls (hl : lv_has ls 4 [(2, .int (0:Int32)), (0, .ref mb), (1, .int x1)]) => ?_)
  refine lv_iconst (v := (0:Int32)) hx hb dX12_declared_2 (by decide) ?_
  refine lv_istore_n hx hb dX12_declared_3 rfl hl (Nat.le_of_ble_eq_true rfl) rfl (fun ls (hl : lv_has ls 4 [(3, .int (0:Int32)), (2, .int (0:Int32)), (0, .ref mb), (1, .int x1)]) => ?_)
  exact N_declared_4 X hP (lv_sub hl [2, 3, 1, 0] rfl) h
theorem cl_declared {p : Program} {l : Launch} {e : Env} {s : State} {m : MethodId} {args : Array Value} {below : List Frame} {meth : Method} {c : Code} {D : mD} {mb : Nat} {H : Heap} {locs : List Loc} {Q : State → Prop} {cc : ByteArray} {pc fR lR nL : Nat} {ls : Array Slot} {rest : List Value} {ret : Option FieldType} {σ : mS} (X : mX p s m args meth c cc nL ret D) (hP : mP D mb σ H) {x1 : Int32} {r : Int32} (h : f_declared x1 σ = some r) (hr : 0 + 1 ≤ fR ∧ 8 + (4 + 11) + 0 ≤ lR) (hl : ls.size = nL) (hW : (rest.map fun v => v.category).sum ≤ 8) (hdg : decode cc pc = .ok (.invokevirtual 543, 3)) (kk : W p l e (rM fR lR) s m args below meth c H locs 0 0 Q (F0 m (pc + 3) ls (.int r :: rest))) : W p l e (rM fR lR) s m args below meth c H locs 0 0 Q (F0 m pc ls (.int x1 :: .ref mb :: rest)) := m_cr (m_run (n := 1) X (K_declared l D mb σ x1 h) ⟨w_2111, w_2113, w_102, w_2114⟩ (hyX rfl (by decide +kernel)) rfl hr hP hl hW hdg rfl) kk
-- markRow(I)I
def f_markRow_27  (x1 : Int32) (σ : mS) : Option (Int32 × mS) := (f_declared (x1) σ).bind (fun v1 => some (v1, σ))
def f_markRow (x1 : Int32) (σ : mS) : Option (Int32 × mS) := if (640:Int32) ≤ x1 then ((dv x1 (16:Int32)).bind (fun v1 => (f_mark (((1:Int32) <<< ((v1 - (40:Int32)) &&& 31))) σ).bind (fun v2 => f_markRow_27 (x1) v2))) else ((f_markAll  σ).bind (fun v3 => f_markRow_27 (x1) v3))
set_option maxRecDepth 20000 in
set_option maxHeartbeats 4000000 in
theorem N_markRow_27 {p : Program} {l : Launch} {e : Env} {s : State} {m : MethodId} {args : Array Value} {below : List Frame} {meth : Method} {c : Code} {D : mD} {mb : Nat}   {x1 : Int32} {σ : mS} {H : Heap} {locs : List Loc} {ls : Array Slot} {q : Int32 × mS} (X : mX p s m args meth c cX12_markRow 2 (some .int) D) (hP : mP D mb σ H) (hF : mF mb s.heap H locs)  (hl : lv_has ls 2 [(0, .ref mb), (1, .int x1)]) (h : f_markRow_27  x1 σ = some q) : mWw p l e 5 109 s m args below meth c D mb q.2 (some (.int q.1)) H locs (F0 m 27 ls []) := by
  have hx := X.1
  have hb := X.2.1
  have hown := X.2.2.2.1
  have hts := X.2.2.2.2.1
  have h : ((f_declared (x1) σ).bind (fun v1 => some (v1, σ))) = some q := h
  refine lv_aload_n hx hb dX12_markRow_27 rfl (lv_at hl 0 rfl) ?_
  refine lv_iload_n hx hb dX12_markRow_28 rfl (lv_at hl 1 rfl) ?_
  obtain ⟨v1, hv1, h⟩ := ob h
  refine cl_declared X hP hv1 ⟨Nat.le_of_ble_eq_true rfl, Nat.le_of_ble_eq_true rfl⟩ hl.1 (Nat.le_of_ble_eq_true rfl) dX12_markRow_29 ?_
  obtain rfl := sj h
  exact m_wi X hP hF dX12_markRow_32
set_option maxRecDepth 20000 in
set_option maxHeartbeats 4000000 in
theorem K_markRow (l : Launch) (D : mD) (mb : Nat) (σ : mS) (x1 : Int32) {q : Int32 × mS} (h : f_markRow x1 σ = some q) : Met l yX12_markRow (Cond.code yX12_markRow cX12_markRow 2 (some .int) :: BG) (rM 5 109) (mPc D mb σ [.int x1]) (mQw D mb q.2 (some (.int q.1))) 0 0 (mReg mb) := by
  refine Met.ofW (cc := cX12_markRow) (maxL := 2) (ret := (some .int)) (by decide) rfl ?_
  intro p e s m args below meth c s₁ B hml hv
  obtain ⟨rfl, hP, hK⟩ := hv
  have X := mX_of B hml rfl hK
  have hx := X.1
  have hb := X.2.1
  have hown := X.2.2.2.1
  have hts := X.2.2.2.2.1
  have hl := lv_entry (.ref mb :: [.int x1]) (n := 2) (Nat.le_of_ble_eq_true rfl)
  rw [lg_entry_eq]
  generalize (lg_sl (.ref mb :: [.int x1]) ++ List.replicate (2 - (lg_sl (.ref mb :: [.int x1])).length) Slot.unset).toArray = ls at hl ⊢
  have hl : lv_has ls 2 [(0, .ref mb), (1, .int x1)] := hl
  have hF : mF mb s.heap s.heap [] := mF.rf
  show mWw p l e 5 109 s m (Value.ref mb :: [.int x1]).toArray below meth c D mb q.2 (some (.int q.1)) s.heap [] (F0 m 0 ls [])
  have h : (if (640:Int32) ≤ x1 then ((dv x1 (16:Int32)).bind (fun v1 => (f_mark (((1:Int32) <<< ((v1 - (40:Int32)) &&& 31))) σ).bind (fun v2 => f_markRow_27 (x1) v2))) else ((f_markAll  σ).bind (fun v3 => f_markRow_27 (x1) v3))) = some q := h
  refine lv_iload_n hx hb dX12_markRow_0 rfl (lv_at hl 1 rfl) ?_
  refine lv_sipush (v := (640:Int32)) hx hb dX12_markRow_1 (by decide) ?_
  refine lv_icmp_ge (tgt := 14) hx hb dX12_markRow_4 rfl (fun hc => ?_) (fun hc => ?_)
  · have h := ip hc h
    refine lv_aload_n hx hb dX12_markRow_14 rfl (lv_at hl 0 rfl) ?_
    refine lv_iconst (v := (1:Int32)) hx hb dX12_markRow_15 (by decide) ?_
    refine lv_iload_n hx hb dX12_markRow_16 rfl (lv_at hl 1 rfl) ?_
    refine lv_bipush (v := (16:Int32)) hx hb dX12_markRow_17 (by decide) ?_
    obtain ⟨v1, hv1, h⟩ := ob h
    obtain ⟨hnv1, hev1⟩ := dv_spec hv1
    refine lv_idiv hx hb dX12_markRow_19 hnv1 ?_
    rw [hev1]
    refine lv_bipush (v := (40:Int32)) hx hb dX12_markRow_20 (by decide) ?_
    refine lv_isub hx hb dX12_markRow_22 ?_
    refine lv_ishl hx hb dX12_markRow_23 ?_
    obtain ⟨v2, hv2, h⟩ := ob h
    refine cl_mark X hP hF hv2 ⟨Nat.le_of_ble_eq_true rfl, Nat.le_of_ble_eq_true rfl⟩ hl.1 (Nat.le_of_ble_eq_true rfl) dX12_markRow_24 (fun H locs hP hF => ?_)
    exact N_markRow_27 X hP hF (lv_sub hl [0, 1] rfl) h
  · have h := ine hc h
    refine lv_aload_n hx hb dX12_markRow_7 rfl (lv_at hl 0 rfl) ?_
    obtain ⟨v3, hv3, h⟩ := ob h
    refine cl_markAll X hP hF hv3 ⟨Nat.le_of_ble_eq_true rfl, Nat.le_of_ble_eq_true rfl⟩ hl.1 (Nat.le_of_ble_eq_true rfl) dX12_markRow_8 (fun H locs hP hF => ?_)
    refine lv_goto (tgt := 27) hx hb dX12_markRow_11 rfl ?_
    exact N_markRow_27 X hP hF (lv_sub hl [0, 1] rfl) h
theorem cl_markRow {p : Program} {l : Launch} {e : Env} {s : State} {m : MethodId} {args : Array Value} {below : List Frame} {meth : Method} {c : Code} {D : mD} {mb : Nat} {H : Heap} {locs : List Loc} {Q : State → Prop} {cc : ByteArray} {pc fR lR nL : Nat} {ls : Array Slot} {rest : List Value} {ret : Option FieldType} {σ : mS} (X : mX p s m args meth c cc nL ret D) (hP : mP D mb σ H) (hF : mF mb s.heap H locs) {x1 : Int32} {q : Int32 × mS} (h : f_markRow x1 σ = some q) (hr : 5 + 1 ≤ fR ∧ 8 + (2 + 11) + 109 ≤ lR) (hl : ls.size = nL) (hW : (rest.map fun v => v.category).sum ≤ 8) (hdg : decode cc pc = .ok (.invokevirtual 553, 3)) (kk : ∀ (H1 : Heap) (locs1 : List Loc), mP D mb q.2 H1 → mF mb s.heap H1 locs1 → W p l e (rM fR lR) s m args below meth c H1 locs1 0 0 Q (F0 m (pc + 3) ls (.int q.1 :: rest))) : W p l e (rM fR lR) s m args below meth c H locs 0 0 Q (F0 m pc ls (.int x1 :: .ref mb :: rest)) := m_cw (m_run (n := 1) X (K_markRow l D mb σ x1 h) ⟨w_2107, w_2109, w_101, w_2110⟩ (hyX rfl (by decide +kernel)) rfl hr hP hl hW hdg rfl) hF kk
-- lay(IIIZIII)V
def f_lay_29  (x1 : Int32) (x5 : Int32) (x6 : Int32) (x7 : Int32) (y1 : Int32) (y2 : Int32) (σ : mS) : Option (mS) := (wr σ 39 y1 y2).bind (fun s1 => (wr s1 40 x1 x5).bind (fun s2 => (wr s2 41 x1 x6).bind (fun s3 => (wr s3 42 x1 x7).bind (fun s4 => some s4))))
def f_lay (x1 : Int32) (x2 : Int32) (x3 : Int32) (x4 : Int32) (x5 : Int32) (x6 : Int32) (x7 : Int32) (σ : mS) : Option (mS) := (wr σ 37 x1 x2).bind (fun s1 => (wr s1 38 x1 x3).bind (fun s2 => if x4 = (0:Int32) then (f_lay_29 (x1) (x5) (x6) (x7) (x1) ((0:Int32)) s2) else (f_lay_29 (x1) (x5) (x6) (x7) (x1) ((1:Int32)) s2)))
set_option maxRecDepth 20000 in
set_option maxHeartbeats 4000000 in
theorem N_lay_29 {p : Program} {l : Launch} {e : Env} {s : State} {m : MethodId} {args : Array Value} {below : List Frame} {meth : Method} {c : Code} {D : mD} {mb : Nat}   {x1 : Int32} {x5 : Int32} {x6 : Int32} {x7 : Int32} {y1 : Int32} {y2 : Int32} {σ : mS} {H : Heap} {locs : List Loc} {ls : Array Slot} {q : mS} (X : mX p s m args meth c cX12_lay 8 none D) (hP : mP D mb σ H) (hF : mF mb s.heap H locs)  (hl : lv_has ls 8 [(0, .ref mb), (1, .int x1), (5, .int x5), (6, .int x6), (7, .int x7)]) (h : f_lay_29  x1 x5 x6 x7 y1 y2 σ = some q) : mWw p l e 0 0 s m args below meth c D mb q none H locs (F0 m 29 ls [.int y2, .int y1, .ref (mA mb 39)]) := by
  have hx := X.1
  have hb := X.2.1
  have hown := X.2.2.2.1
  have hts := X.2.2.2.2.1
  have h : ((wr σ 39 y1 y2).bind (fun s1 => (wr s1 40 x1 x5).bind (fun s2 => (wr s2 41 x1 x6).bind (fun s3 => (wr s3 42 x1 x7).bind (fun s4 => some s4))))) = some q := h
  obtain ⟨s1, hs1, h⟩ := ob h
  refine m_ast X hP hF hs1 dX12_lay_29 (fun H locs hP hF => ?_)
  refine lv_aload_n hx hb dX12_lay_30 rfl (lv_at hl 0 rfl) ?_
  refine mg_dv X hP dX12_lay_31 ?_
  refine lv_iload_n hx hb dX12_lay_34 rfl (lv_at hl 1 rfl) ?_
  refine lv_iload hx hb dX12_lay_35 (lv_at hl 2 rfl) ?_
  obtain ⟨s2, hs2, h⟩ := ob h
  refine m_ast X hP hF hs2 dX12_lay_37 (fun H locs hP hF => ?_)
  refine lv_aload_n hx hb dX12_lay_38 rfl (lv_at hl 0 rfl) ?_
  refine mg_eu X hP dX12_lay_39 ?_
  refine lv_iload_n hx hb dX12_lay_42 rfl (lv_at hl 1 rfl) ?_
  refine lv_iload hx hb dX12_lay_43 (lv_at hl 3 rfl) ?_
  obtain ⟨s3, hs3, h⟩ := ob h
  refine m_ast X hP hF hs3 dX12_lay_45 (fun H locs hP hF => ?_)
  refine lv_aload_n hx hb dX12_lay_46 rfl (lv_at hl 0 rfl) ?_
  refine mg_en X hP dX12_lay_47 ?_
  refine lv_iload_n hx hb dX12_lay_50 rfl (lv_at hl 1 rfl) ?_
  refine lv_iload hx hb dX12_lay_51 (lv_at hl 4 rfl) ?_
  obtain ⟨s4, hs4, h⟩ := ob h
  refine m_ast X hP hF hs4 dX12_lay_53 (fun H locs hP hF => ?_)
  obtain rfl := sj h
  exact m_wv X hP hF dX12_lay_54
set_option maxRecDepth 20000 in
set_option maxHeartbeats 4000000 in
theorem K_lay (l : Launch) (D : mD) (mb : Nat) (σ : mS) (x1 : Int32) (x2 : Int32) (x3 : Int32) (x4 : Int32) (x5 : Int32) (x6 : Int32) (x7 : Int32) {q : mS} (h : f_lay x1 x2 x3 x4 x5 x6 x7 σ = some q) : Met l yX12_lay (Cond.code yX12_lay cX12_lay 8 none :: BG) (rM 0 0) (mPc D mb σ [.int x1, .int x2, .int x3, .int x4, .int x5, .int x6, .int x7]) (mQw D mb q none) 0 0 (mReg mb) := by
  refine Met.ofW (cc := cX12_lay) (maxL := 8) (ret := none) (by decide) rfl ?_
  intro p e s m args below meth c s₁ B hml hv
  obtain ⟨rfl, hP, hK⟩ := hv
  have X := mX_of B hml rfl hK
  have hx := X.1
  have hb := X.2.1
  have hown := X.2.2.2.1
  have hts := X.2.2.2.2.1
  have hl := lv_entry (.ref mb :: [.int x1, .int x2, .int x3, .int x4, .int x5, .int x6, .int x7]) (n := 8) (Nat.le_of_ble_eq_true rfl)
  rw [lg_entry_eq]
  generalize (lg_sl (.ref mb :: [.int x1, .int x2, .int x3, .int x4, .int x5, .int x6, .int x7]) ++ List.replicate (8 - (lg_sl (.ref mb :: [.int x1, .int x2, .int x3, .int x4, .int x5, .int x6, .int x7])).length) Slot.unset).toArray = ls at hl ⊢
  have hl : lv_has ls 8 [(0, .ref mb), (1, .int x1), (2, .int x2), (3, .int x3), (4, .int x4), (5, .int x5), (6, .int x6), (7, .int x7)] := hl
  have hF : mF mb s.heap s.heap [] := mF.rf
  show mWw p l e 0 0 s m (Value.ref mb :: [.int x1, .int x2, .int x3, .int x4, .int x5, .int x6, .int x7]).toArray below meth c D mb q none s.heap [] (F0 m 0 ls [])
  have h : ((wr σ 37 x1 x2).bind (fun s1 => (wr s1 38 x1 x3).bind (fun s2 => if x4 = (0:Int32) then (f_lay_29 (x1) (x5) (x6) (x7) (x1) ((0:Int32)) s2) else (f_lay_29 (x1) (x5) (x6) (x7) (x1) ((1:Int32)) s2)))) = some q := h
  refine lv_aload_n hx hb dX12_lay_0 rfl (lv_at hl 0 rfl) ?_
  refine mg_du X hP dX12_lay_1 ?_
  refine lv_iload_n hx hb dX12_lay_4 rfl (lv_at hl 1 rfl) ?_
  refine lv_iload_n hx hb dX12_lay_5 rfl (lv_at hl 2 rfl) ?_
  obtain ⟨s1, hs1, h⟩ := ob h
  refine m_ast X hP hF hs1 dX12_lay_6 (fun H locs hP hF => ?_)
  refine lv_aload_n hx hb dX12_lay_7 rfl (lv_at hl 0 rfl) ?_
  refine mg_dn X hP dX12_lay_8 ?_
  refine lv_iload_n hx hb dX12_lay_11 rfl (lv_at hl 1 rfl) ?_
  refine lv_iload_n hx hb dX12_lay_12 rfl (lv_at hl 3 rfl) ?_
  obtain ⟨s2, hs2, h⟩ := ob h
  refine m_ast X hP hF hs2 dX12_lay_13 (fun H locs hP hF => ?_)
  refine lv_aload_n hx hb dX12_lay_14 rfl (lv_at hl 0 rfl) ?_
  refine mg_di X hP dX12_lay_15 ?_
  refine lv_iload_n hx hb dX12_lay_18 rfl (lv_at hl 1 rfl) ?_
  refine lv_iload hx hb dX12_lay_19 (lv_at hl 4 rfl) ?_
  refine lv_if_eq (tgt := 28) hx hb dX12_lay_21 rfl (fun hc => ?_) (fun hc => ?_)
  · have h := ip hc h
    refine lv_iconst (v := (0:Int32)) hx hb dX12_lay_28 (by decide) ?_
    exact N_lay_29 X hP hF (lv_sub hl [0, 1, 5, 6, 7] rfl) h
  · have h := ine hc h
    refine lv_iconst (v := (1:Int32)) hx hb dX12_lay_24 (by decide) ?_
    refine lv_goto (tgt := 29) hx hb dX12_lay_25 rfl ?_
    exact N_lay_29 X hP hF (lv_sub hl [0, 1, 5, 6, 7] rfl) h
theorem cl_lay {p : Program} {l : Launch} {e : Env} {s : State} {m : MethodId} {args : Array Value} {below : List Frame} {meth : Method} {c : Code} {D : mD} {mb : Nat} {H : Heap} {locs : List Loc} {Q : State → Prop} {cc : ByteArray} {pc fR lR nL : Nat} {ls : Array Slot} {rest : List Value} {ret : Option FieldType} {σ : mS} (X : mX p s m args meth c cc nL ret D) (hP : mP D mb σ H) (hF : mF mb s.heap H locs) {x1 : Int32} {x2 : Int32} {x3 : Int32} {x4 : Int32} {x5 : Int32} {x6 : Int32} {x7 : Int32} {q : mS} (h : f_lay x1 x2 x3 x4 x5 x6 x7 σ = some q) (hr : 0 + 1 ≤ fR ∧ 8 + (8 + 11) + 0 ≤ lR) (hl : ls.size = nL) (hW : (rest.map fun v => v.category).sum ≤ 8) (hdg : decode cc pc = .ok (.invokevirtual 549, 3)) (kk : ∀ (H1 : Heap) (locs1 : List Loc), mP D mb q H1 → mF mb s.heap H1 locs1 → W p l e (rM fR lR) s m args below meth c H1 locs1 0 0 Q (F0 m (pc + 3) ls rest)) : W p l e (rM fR lR) s m args below meth c H locs 0 0 Q (F0 m pc ls (.int x7 :: .int x6 :: .int x5 :: .int x4 :: .int x3 :: .int x2 :: .int x1 :: .ref mb :: rest)) := m_cv (m_run (n := 7) X (K_lay l D mb σ x1 x2 x3 x4 x5 x6 x7 h) ⟨w_2103, w_2105, w_100, w_2106⟩ (hyX rfl (by decide +kernel)) rfl hr hP hl hW hdg rfl) hF kk
-- declare(IIIIZ)I
def f_declare_151  (x6 : Int32) (σ : mS) : Option (Int32 × mS) := (f_markRow (x6) σ).bind (fun v1 => some (v1.1, v1.2))
def f_declare_117  (x2 : Int32) (x3 : Int32) (x4 : Int32) (x5 : Int32) (x6 : Int32) (y1 : Int32) (y2 : Int32) (σ : mS) : Option (Int32 × mS) := (f_lay ((y1 + y2)) (x3) (x4) (x5) ((0:Int32)) (((-1):Int32)) ((0:Int32)) σ).bind (fun v1 => if x2 = (15:Int32) then ((f_lay ((x6 + (4:Int32))) (x3) (x4) (x5) ((0:Int32)) (((-1):Int32)) ((0:Int32)) v1).bind (fun v2 => f_declare_151 (x6) v2)) else (f_declare_151 (x6) v1))
def f_declare_95  (x2 : Int32) (x3 : Int32) (x4 : Int32) (x5 : Int32) (x6 : Int32) (y1 : Int32) (σ : mS) : Option (Int32 × mS) := (f_holds (y1) σ).bind (fun v1 => if v1.1 = (0:Int32) then (if x2 = (15:Int32) then (f_declare_117 (x2) (x3) (x4) (x5) (x6) (x6) ((3:Int32)) v1.2) else (f_declare_117 (x2) (x3) (x4) (x5) (x6) (x6) (x2) v1.2)) else (some (((-1):Int32), v1.2)))
def f_declare_73  (x2 : Int32) (x3 : Int32) (x4 : Int32) (x5 : Int32) (x6 : Int32) (y0 : Int32) (σ : mS) : Option (Int32 × mS) := if (0:Int32) ≤ x6 then (if y0 = (0:Int32) then (f_declare_95 (x2) (x3) (x4) (x5) (x6) ((2:Int32)) σ) else (f_declare_95 (x2) (x3) (x4) (x5) (x6) ((0:Int32)) σ)) else (f_declare_95 (x2) (x3) (x4) (x5) (x6) ((1:Int32)) σ)
def f_declare_72  (x2 : Int32) (x3 : Int32) (x4 : Int32) (x5 : Int32) (x6 : Int32) (σ : mS) : Option (Int32 × mS) := f_declare_73 (x2) (x3) (x4) (x5) (x6) ((0:Int32)) σ
def f_declare_61  (x2 : Int32) (x3 : Int32) (x4 : Int32) (x5 : Int32) (x6 : Int32) (y1 : Int32) (σ : mS) : Option (Int32 × mS) := (f_suits (y1) (x3)).bind (fun v1 => if v1 = (0:Int32) then (f_declare_72 (x2) (x3) (x4) (x5) (x6) σ) else (f_declare_73 (x2) (x3) (x4) (x5) (x6) ((1:Int32)) σ))
def f_declare_49  (x2 : Int32) (x3 : Int32) (x4 : Int32) (x5 : Int32) (x6 : Int32) (σ : mS) : Option (Int32 × mS) := if x2 = (15:Int32) then (f_declare_61 (x2) (x3) (x4) (x5) (x6) ((3:Int32)) σ) else (f_declare_61 (x2) (x3) (x4) (x5) (x6) (x2) σ)
def f_declare (x1 : Int32) (x2 : Int32) (x3 : Int32) (x4 : Int32) (x5 : Int32) (σ : mS) : Option (Int32 × mS) := (f_rowOf (x1) σ).bind (fun v1 => (f_in (x2) ((0:Int32)) ((15:Int32))).bind (fun v2 => if v2 = (0:Int32) then (f_declare_72 (x2) (x3) (x4) (x5) (v1) σ) else ((f_in (x3) ((0:Int32)) ((10:Int32))).bind (fun v3 => if v3 = (0:Int32) then (f_declare_72 (x2) (x3) (x4) (x5) (v1) σ) else (if (5:Int32) < x3 then (f_declare_49 (x2) (x3) (x4) (x5) (v1) σ) else ((f_in (x4) (((-9999):Int32)) ((9999:Int32))).bind (fun v4 => if v4 = (0:Int32) then (f_declare_72 (x2) (x3) (x4) (x5) (v1) σ) else (f_declare_49 (x2) (x3) (x4) (x5) (v1) σ))))))))
set_option maxRecDepth 20000 in
set_option maxHeartbeats 4000000 in
theorem N_declare_151 {p : Program} {l : Launch} {e : Env} {s : State} {m : MethodId} {args : Array Value} {below : List Frame} {meth : Method} {c : Code} {D : mD} {mb : Nat}   {x6 : Int32} {σ : mS} {H : Heap} {locs : List Loc} {ls : Array Slot} {q : Int32 × mS} (X : mX p s m args meth c cX12_declare 8 (some .int) D) (hP : mP D mb σ H) (hF : mF mb s.heap H locs)  (hl : lv_has ls 8 [(0, .ref mb), (6, .int x6)]) (h : f_declare_151  x6 σ = some q) : mWw p l e 6 130 s m args below meth c D mb q.2 (some (.int q.1)) H locs (F0 m 151 ls []) := by
  have hx := X.1
  have hb := X.2.1
  have hown := X.2.2.2.1
  have hts := X.2.2.2.2.1
  have h : ((f_markRow (x6) σ).bind (fun v1 => some (v1.1, v1.2))) = some q := h
  refine lv_aload_n hx hb dX12_declare_151 rfl (lv_at hl 0 rfl) ?_
  refine lv_iload hx hb dX12_declare_152 (lv_at hl 1 rfl) ?_
  obtain ⟨v1, hv1, h⟩ := ob h
  refine cl_markRow X hP hF hv1 ⟨Nat.le_of_ble_eq_true rfl, Nat.le_of_ble_eq_true rfl⟩ hl.1 (Nat.le_of_ble_eq_true rfl) dX12_declare_154 (fun H locs hP hF => ?_)
  obtain rfl := sj h
  exact m_wi X hP hF dX12_declare_157
set_option maxRecDepth 20000 in
set_option maxHeartbeats 4000000 in
theorem N_declare_117 {p : Program} {l : Launch} {e : Env} {s : State} {m : MethodId} {args : Array Value} {below : List Frame} {meth : Method} {c : Code} {D : mD} {mb : Nat}   {x2 : Int32} {x3 : Int32} {x4 : Int32} {x5 : Int32} {x6 : Int32} {y1 : Int32} {y2 : Int32} {σ : mS} {H : Heap} {locs : List Loc} {ls : Array Slot} {q : Int32 × mS} (X : mX p s m args meth c cX12_declare 8 (some .int) D) (hP : mP D mb σ H) (hF : mF mb s.heap H locs)  (hl : lv_has ls 8 [(0, .ref mb), (2, .int x2), (3, .int x3), (4, .int x4), (5, .int x5), (6, .int x6)]) (h : f_declare_117  x2 x3 x4 x5 x6 y1 y2 σ = some q) : mWw p l e 6 130 s m args below meth c D mb q.2 (some (.int q.1)) H locs (F0 m 117 ls [.int y2, .int y1, .ref mb]) := by
  have hx := X.1
  have hb := X.2.1
  have hown := X.2.2.2.1
  have hts := X.2.2.2.2.1
  have h : ((f_lay ((y1 + y2)) (x3) (x4) (x5) ((0:Int32)) (((-1):Int32)) ((0:Int32)) σ).bind (fun v1 => if x2 = (15:Int32) then ((f_lay ((x6 + (4:Int32))) (x3) (x4) (x5) ((0:Int32)) (((-1):Int32)) ((0:Int32)) v1).bind (fun v2 => f_declare_151 (x6) v2)) else (f_declare_151 (x6) v1))) = some q := h
  refine lv_iadd hx hb dX12_declare_117 ?_
  refine lv_iload_n hx hb dX12_declare_118 rfl (lv_at hl 2 rfl) ?_
  refine lv_iload hx hb dX12_declare_119 (lv_at hl 3 rfl) ?_
  refine lv_iload hx hb dX12_declare_121 (lv_at hl 4 rfl) ?_
  refine lv_iconst (v := (0:Int32)) hx hb dX12_declare_123 (by decide) ?_
  refine lv_iconst (v := ((-1):Int32)) hx hb dX12_declare_124 (by decide) ?_
  refine lv_iconst (v := (0:Int32)) hx hb dX12_declare_125 (by decide) ?_
  obtain ⟨v1, hv1, h⟩ := ob h
  refine cl_lay X hP hF hv1 ⟨Nat.le_of_ble_eq_true rfl, Nat.le_of_ble_eq_true rfl⟩ hl.1 (Nat.le_of_ble_eq_true rfl) dX12_declare_126 (fun H locs hP hF => ?_)
  refine lv_iload_n hx hb dX12_declare_129 rfl (lv_at hl 1 rfl) ?_
  refine lv_bipush (v := (15:Int32)) hx hb dX12_declare_130 (by decide) ?_
  refine lv_icmp_ne (tgt := 151) hx hb dX12_declare_132 rfl (fun hc => ?_) (fun hc => ?_)
  · have h := ine hc h
    exact N_declare_151 X hP hF (lv_sub hl [0, 5] rfl) h
  · have h := ip hc h
    refine lv_aload_n hx hb dX12_declare_135 rfl (lv_at hl 0 rfl) ?_
    refine lv_iload hx hb dX12_declare_136 (lv_at hl 5 rfl) ?_
    refine lv_iconst (v := (4:Int32)) hx hb dX12_declare_138 (by decide) ?_
    refine lv_iadd hx hb dX12_declare_139 ?_
    refine lv_iload_n hx hb dX12_declare_140 rfl (lv_at hl 2 rfl) ?_
    refine lv_iload hx hb dX12_declare_141 (lv_at hl 3 rfl) ?_
    refine lv_iload hx hb dX12_declare_143 (lv_at hl 4 rfl) ?_
    refine lv_iconst (v := (0:Int32)) hx hb dX12_declare_145 (by decide) ?_
    refine lv_iconst (v := ((-1):Int32)) hx hb dX12_declare_146 (by decide) ?_
    refine lv_iconst (v := (0:Int32)) hx hb dX12_declare_147 (by decide) ?_
    obtain ⟨v2, hv2, h⟩ := ob h
    refine cl_lay X hP hF hv2 ⟨Nat.le_of_ble_eq_true rfl, Nat.le_of_ble_eq_true rfl⟩ hl.1 (Nat.le_of_ble_eq_true rfl) dX12_declare_148 (fun H locs hP hF => ?_)
    exact N_declare_151 X hP hF (lv_sub hl [0, 5] rfl) h
set_option maxRecDepth 20000 in
set_option maxHeartbeats 4000000 in
theorem N_declare_95 {p : Program} {l : Launch} {e : Env} {s : State} {m : MethodId} {args : Array Value} {below : List Frame} {meth : Method} {c : Code} {D : mD} {mb : Nat}   {x2 : Int32} {x3 : Int32} {x4 : Int32} {x5 : Int32} {x6 : Int32} {y1 : Int32} {σ : mS} {H : Heap} {locs : List Loc} {ls : Array Slot} {q : Int32 × mS} (X : mX p s m args meth c cX12_declare 8 (some .int) D) (hP : mP D mb σ H) (hF : mF mb s.heap H locs)  (hl : lv_has ls 8 [(0, .ref mb), (2, .int x2), (3, .int x3), (4, .int x4), (5, .int x5), (6, .int x6)]) (h : f_declare_95  x2 x3 x4 x5 x6 y1 σ = some q) : mWw p l e 6 130 s m args below meth c D mb q.2 (some (.int q.1)) H locs (F0 m 95 ls [.int y1, .ref mb]) := by
  have hx := X.1
  have hb := X.2.1
  have hown := X.2.2.2.1
  have hts := X.2.2.2.2.1
  have h : ((f_holds (y1) σ).bind (fun v1 => if v1.1 = (0:Int32) then (if x2 = (15:Int32) then (f_declare_117 (x2) (x3) (x4) (x5) (x6) (x6) ((3:Int32)) v1.2) else (f_declare_117 (x2) (x3) (x4) (x5) (x6) (x6) (x2) v1.2)) else (some (((-1):Int32), v1.2)))) = some q := h
  obtain ⟨v1, hv1, h⟩ := ob h
  refine cl_holds X hP hF hv1 ⟨Nat.le_of_ble_eq_true rfl, Nat.le_of_ble_eq_true rfl⟩ hl.1 (Nat.le_of_ble_eq_true rfl) dX12_declare_95 (fun H locs hP hF => ?_)
  refine lv_if_eq (tgt := 103) hx hb dX12_declare_98 rfl (fun hc => ?_) (fun hc => ?_)
  · have h := ip hc h
    refine lv_aload_n hx hb dX12_declare_103 rfl (lv_at hl 0 rfl) ?_
    refine lv_iload hx hb dX12_declare_104 (lv_at hl 5 rfl) ?_
    refine lv_iload_n hx hb dX12_declare_106 rfl (lv_at hl 1 rfl) ?_
    refine lv_bipush (v := (15:Int32)) hx hb dX12_declare_107 (by decide) ?_
    refine lv_icmp_ne (tgt := 116) hx hb dX12_declare_109 rfl (fun hc => ?_) (fun hc => ?_)
    · have h := ine hc h
      refine lv_iload_n hx hb dX12_declare_116 rfl (lv_at hl 1 rfl) ?_
      exact N_declare_117 X hP hF (lv_sub hl [0, 1, 2, 3, 4, 5] rfl) h
    · have h := ip hc h
      refine lv_iconst (v := (3:Int32)) hx hb dX12_declare_112 (by decide) ?_
      refine lv_goto (tgt := 117) hx hb dX12_declare_113 rfl ?_
      exact N_declare_117 X hP hF (lv_sub hl [0, 1, 2, 3, 4, 5] rfl) h
  · have h := ine hc h
    refine lv_iconst (v := ((-1):Int32)) hx hb dX12_declare_101 (by decide) ?_
    obtain rfl := sj h
    exact m_wi X hP hF dX12_declare_102
set_option maxRecDepth 20000 in
set_option maxHeartbeats 4000000 in
theorem N_declare_73 {p : Program} {l : Launch} {e : Env} {s : State} {m : MethodId} {args : Array Value} {below : List Frame} {meth : Method} {c : Code} {D : mD} {mb : Nat}   {x2 : Int32} {x3 : Int32} {x4 : Int32} {x5 : Int32} {x6 : Int32} {y0 : Int32} {σ : mS} {H : Heap} {locs : List Loc} {ls : Array Slot} {q : Int32 × mS} (X : mX p s m args meth c cX12_declare 8 (some .int) D) (hP : mP D mb σ H) (hF : mF mb s.heap H locs)  (hl : lv_has ls 8 [(0, .ref mb), (2, .int x2), (3, .int x3), (4, .int x4), (5, .int x5), (6, .int x6)]) (h : f_declare_73  x2 x3 x4 x5 x6 y0 σ = some q) : mWw p l e 6 130 s m args below meth c D mb q.2 (some (.int q.1)) H locs (F0 m 73 ls [.int y0]) := by
  have hx := X.1
  have hb := X.2.1
  have hown := X.2.2.2.1
  have hts := X.2.2.2.2.1
  have h : (if (0:Int32) ≤ x6 then (if y0 = (0:Int32) then (f_declare_95 (x2) (x3) (x4) (x5) (x6) ((2:Int32)) σ) else (f_declare_95 (x2) (x3) (x4) (x5) (x6) ((0:Int32)) σ)) else (f_declare_95 (x2) (x3) (x4) (x5) (x6) ((1:Int32)) σ)) = some q := h
  refine lv_istore hx hb dX12_declare_73 hl (Nat.le_of_ble_eq_true rfl) rfl (fun ls (hl : lv_has ls 8 [(7, .int y0), (0, .ref mb), (2, .int x2), (3, .int x3), (4, .int x4), (5, .int x5), (6, .int x6)]) => ?_)
  refine lv_aload_n hx hb dX12_declare_75 rfl (lv_at hl 1 rfl) ?_
  refine lv_iload hx hb dX12_declare_76 (lv_at hl 6 rfl) ?_
  refine lv_if_ge (tgt := 85) hx hb dX12_declare_78 rfl (fun hc => ?_) (fun hc => ?_)
  · have h := ip hc h
    refine lv_iload hx hb dX12_declare_85 (lv_at hl 0 rfl) ?_
    refine lv_if_eq (tgt := 94) hx hb dX12_declare_87 rfl (fun hc => ?_) (fun hc => ?_)
    · have h := ip hc h
      refine lv_iconst (v := (2:Int32)) hx hb dX12_declare_94 (by decide) ?_
      exact N_declare_95 X hP hF (lv_sub hl [1, 2, 3, 4, 5, 6] rfl) h
    · have h := ine hc h
      refine lv_iconst (v := (0:Int32)) hx hb dX12_declare_90 (by decide) ?_
      refine lv_goto (tgt := 95) hx hb dX12_declare_91 rfl ?_
      exact N_declare_95 X hP hF (lv_sub hl [1, 2, 3, 4, 5, 6] rfl) h
  · have h := ine hc h
    refine lv_iconst (v := (1:Int32)) hx hb dX12_declare_81 (by decide) ?_
    refine lv_goto (tgt := 95) hx hb dX12_declare_82 rfl ?_
    exact N_declare_95 X hP hF (lv_sub hl [1, 2, 3, 4, 5, 6] rfl) h
set_option maxRecDepth 20000 in
set_option maxHeartbeats 4000000 in
theorem N_declare_72 {p : Program} {l : Launch} {e : Env} {s : State} {m : MethodId} {args : Array Value} {below : List Frame} {meth : Method} {c : Code} {D : mD} {mb : Nat}   {x2 : Int32} {x3 : Int32} {x4 : Int32} {x5 : Int32} {x6 : Int32} {σ : mS} {H : Heap} {locs : List Loc} {ls : Array Slot} {q : Int32 × mS} (X : mX p s m args meth c cX12_declare 8 (some .int) D) (hP : mP D mb σ H) (hF : mF mb s.heap H locs)  (hl : lv_has ls 8 [(0, .ref mb), (2, .int x2), (3, .int x3), (4, .int x4), (5, .int x5), (6, .int x6)]) (h : f_declare_72  x2 x3 x4 x5 x6 σ = some q) : mWw p l e 6 130 s m args below meth c D mb q.2 (some (.int q.1)) H locs (F0 m 72 ls []) := by
  have hx := X.1
  have hb := X.2.1
  have hown := X.2.2.2.1
  have hts := X.2.2.2.2.1
  have h : (f_declare_73 (x2) (x3) (x4) (x5) (x6) ((0:Int32)) σ) = some q := h
  refine lv_iconst (v := (0:Int32)) hx hb dX12_declare_72 (by decide) ?_
  exact N_declare_73 X hP hF (lv_sub hl [0, 1, 2, 3, 4, 5] rfl) h
set_option maxRecDepth 20000 in
set_option maxHeartbeats 4000000 in
theorem N_declare_61 {p : Program} {l : Launch} {e : Env} {s : State} {m : MethodId} {args : Array Value} {below : List Frame} {meth : Method} {c : Code} {D : mD} {mb : Nat}   {x2 : Int32} {x3 : Int32} {x4 : Int32} {x5 : Int32} {x6 : Int32} {y1 : Int32} {σ : mS} {H : Heap} {locs : List Loc} {ls : Array Slot} {q : Int32 × mS} (X : mX p s m args meth c cX12_declare 8 (some .int) D) (hP : mP D mb σ H) (hF : mF mb s.heap H locs)  (hl : lv_has ls 8 [(0, .ref mb), (2, .int x2), (3, .int x3), (4, .int x4), (5, .int x5), (6, .int x6)]) (h : f_declare_61  x2 x3 x4 x5 x6 y1 σ = some q) : mWw p l e 6 130 s m args below meth c D mb q.2 (some (.int q.1)) H locs (F0 m 61 ls [.int y1, .ref mb]) := by
  have hx := X.1
  have hb := X.2.1
  have hown := X.2.2.2.1
  have hts := X.2.2.2.2.1
  have h : ((f_suits (y1) (x3)).bind (fun v1 => if v1 = (0:Int32) then (f_declare_72 (x2) (x3) (x4) (x5) (x6) σ) else (f_declare_73 (x2) (x3) (x4) (x5) (x6) ((1:Int32)) σ))) = some q := h
  refine lv_iload_n hx hb dX12_declare_61 rfl (lv_at hl 2 rfl) ?_
  obtain ⟨v1, hv1, h⟩ := ob h
  refine cl_suits X hP hv1 ⟨Nat.le_of_ble_eq_true rfl, Nat.le_of_ble_eq_true rfl⟩ hl.1 (Nat.le_of_ble_eq_true rfl) dX12_declare_62 ?_
  refine lv_if_eq (tgt := 72) hx hb dX12_declare_65 rfl (fun hc => ?_) (fun hc => ?_)
  · have h := ip hc h
    exact N_declare_72 X hP hF (lv_sub hl [0, 1, 2, 3, 4, 5] rfl) h
  · have h := ine hc h
    refine lv_iconst (v := (1:Int32)) hx hb dX12_declare_68 (by decide) ?_
    refine lv_goto (tgt := 73) hx hb dX12_declare_69 rfl ?_
    exact N_declare_73 X hP hF (lv_sub hl [0, 1, 2, 3, 4, 5] rfl) h
set_option maxRecDepth 20000 in
set_option maxHeartbeats 4000000 in
theorem N_declare_49 {p : Program} {l : Launch} {e : Env} {s : State} {m : MethodId} {args : Array Value} {below : List Frame} {meth : Method} {c : Code} {D : mD} {mb : Nat}   {x2 : Int32} {x3 : Int32} {x4 : Int32} {x5 : Int32} {x6 : Int32} {σ : mS} {H : Heap} {locs : List Loc} {ls : Array Slot} {q : Int32 × mS} (X : mX p s m args meth c cX12_declare 8 (some .int) D) (hP : mP D mb σ H) (hF : mF mb s.heap H locs)  (hl : lv_has ls 8 [(0, .ref mb), (2, .int x2), (3, .int x3), (4, .int x4), (5, .int x5), (6, .int x6)]) (h : f_declare_49  x2 x3 x4 x5 x6 σ = some q) : mWw p l e 6 130 s m args below meth c D mb q.2 (some (.int q.1)) H locs (F0 m 49 ls []) := by
  have hx := X.1
  have hb := X.2.1
  have hown := X.2.2.2.1
  have hts := X.2.2.2.2.1
  have h : (if x2 = (15:Int32) then (f_declare_61 (x2) (x3) (x4) (x5) (x6) ((3:Int32)) σ) else (f_declare_61 (x2) (x3) (x4) (x5) (x6) (x2) σ)) = some q := h
  refine lv_aload_n hx hb dX12_declare_49 rfl (lv_at hl 0 rfl) ?_
  refine lv_iload_n hx hb dX12_declare_50 rfl (lv_at hl 1 rfl) ?_
  refine lv_bipush (v := (15:Int32)) hx hb dX12_declare_51 (by decide) ?_
  refine lv_icmp_ne (tgt := 60) hx hb dX12_declare_53 rfl (fun hc => ?_) (fun hc => ?_)
  · have h := ine hc h
    refine lv_iload_n hx hb dX12_declare_60 rfl (lv_at hl 1 rfl) ?_
    exact N_declare_61 X hP hF (lv_sub hl [0, 1, 2, 3, 4, 5] rfl) h
  · have h := ip hc h
    refine lv_iconst (v := (3:Int32)) hx hb dX12_declare_56 (by decide) ?_
    refine lv_goto (tgt := 61) hx hb dX12_declare_57 rfl ?_
    exact N_declare_61 X hP hF (lv_sub hl [0, 1, 2, 3, 4, 5] rfl) h
set_option maxRecDepth 20000 in
set_option maxHeartbeats 4000000 in
theorem K_declare (l : Launch) (D : mD) (mb : Nat) (σ : mS) (x1 : Int32) (x2 : Int32) (x3 : Int32) (x4 : Int32) (x5 : Int32) {q : Int32 × mS} (h : f_declare x1 x2 x3 x4 x5 σ = some q) : Met l yX12_declare (Cond.code yX12_declare cX12_declare 8 (some .int) :: BG) (rM 6 130) (mPc D mb σ [.int x1, .int x2, .int x3, .int x4, .int x5]) (mQw D mb q.2 (some (.int q.1))) 0 0 (mReg mb) := by
  refine Met.ofW (cc := cX12_declare) (maxL := 8) (ret := (some .int)) (by decide) rfl ?_
  intro p e s m args below meth c s₁ B hml hv
  obtain ⟨rfl, hP, hK⟩ := hv
  have X := mX_of B hml rfl hK
  have hx := X.1
  have hb := X.2.1
  have hown := X.2.2.2.1
  have hts := X.2.2.2.2.1
  have hl := lv_entry (.ref mb :: [.int x1, .int x2, .int x3, .int x4, .int x5]) (n := 8) (Nat.le_of_ble_eq_true rfl)
  rw [lg_entry_eq]
  generalize (lg_sl (.ref mb :: [.int x1, .int x2, .int x3, .int x4, .int x5]) ++ List.replicate (8 - (lg_sl (.ref mb :: [.int x1, .int x2, .int x3, .int x4, .int x5])).length) Slot.unset).toArray = ls at hl ⊢
  have hl : lv_has ls 8 [(0, .ref mb), (1, .int x1), (2, .int x2), (3, .int x3), (4, .int x4), (5, .int x5)] := hl
  have hF : mF mb s.heap s.heap [] := mF.rf
  show mWw p l e 6 130 s m (Value.ref mb :: [.int x1, .int x2, .int x3, .int x4, .int x5]).toArray below meth c D mb q.2 (some (.int q.1)) s.heap [] (F0 m 0 ls [])
  have h : ((f_rowOf (x1) σ).bind (fun v1 => (f_in (x2) ((0:Int32)) ((15:Int32))).bind (fun v2 => if v2 = (0:Int32) then (f_declare_72 (x2) (x3) (x4) (x5) (v1) σ) else ((f_in (x3) ((0:Int32)) ((10:Int32))).bind (fun v3 => if v3 = (0:Int32) then (f_declare_72 (x2) (x3) (x4) (x5) (v1) σ) else (if (5:Int32) < x3 then (f_declare_49 (x2) (x3) (x4) (x5) (v1) σ) else ((f_in (x4) (((-9999):Int32)) ((9999:Int32))).bind (fun v4 => if v4 = (0:Int32) then (f_declare_72 (x2) (x3) (x4) (x5) (v1) σ) else (f_declare_49 (x2) (x3) (x4) (x5) (v1) σ))))))))) = some q := h
  refine lv_aload_n hx hb dX12_declare_0 rfl (lv_at hl 0 rfl) ?_
  refine lv_iload_n hx hb dX12_declare_1 rfl (lv_at hl 1 rfl) ?_
  obtain ⟨v1, hv1, h⟩ := ob h
  refine cl_rowOf X hP hv1 ⟨Nat.le_of_ble_eq_true rfl, Nat.le_of_ble_eq_true rfl⟩ hl.1 (Nat.le_of_ble_eq_true rfl) dX12_declare_2 ?_
  refine lv_istore hx hb dX12_declare_5 hl (Nat.le_of_ble_eq_true rfl) rfl (fun ls (hl : lv_has ls 8 [(6, .int v1), (0, .ref mb), (1, .int x1), (2, .int x2), (3, .int x3), (4, .int x4), (5, .int x5)]) => ?_)
  refine lv_aload_n hx hb dX12_declare_7 rfl (lv_at hl 1 rfl) ?_
  refine lv_iload_n hx hb dX12_declare_8 rfl (lv_at hl 3 rfl) ?_
  refine lv_iconst (v := (0:Int32)) hx hb dX12_declare_9 (by decide) ?_
  refine lv_bipush (v := (15:Int32)) hx hb dX12_declare_10 (by decide) ?_
  obtain ⟨v2, hv2, h⟩ := ob h
  refine cl_in X hP hv2 ⟨Nat.le_of_ble_eq_true rfl, Nat.le_of_ble_eq_true rfl⟩ hl.1 (Nat.le_of_ble_eq_true rfl) dX12_declare_12 ?_
  refine lv_if_eq (tgt := 72) hx hb dX12_declare_15 rfl (fun hc => ?_) (fun hc => ?_)
  · have h := ip hc h
    exact N_declare_72 X hP hF (lv_sub hl [1, 3, 4, 5, 6, 0] rfl) h
  · have h := ine hc h
    refine lv_aload_n hx hb dX12_declare_18 rfl (lv_at hl 1 rfl) ?_
    refine lv_iload_n hx hb dX12_declare_19 rfl (lv_at hl 4 rfl) ?_
    refine lv_iconst (v := (0:Int32)) hx hb dX12_declare_20 (by decide) ?_
    refine lv_bipush (v := (10:Int32)) hx hb dX12_declare_21 (by decide) ?_
    obtain ⟨v3, hv3, h⟩ := ob h
    refine cl_in X hP hv3 ⟨Nat.le_of_ble_eq_true rfl, Nat.le_of_ble_eq_true rfl⟩ hl.1 (Nat.le_of_ble_eq_true rfl) dX12_declare_23 ?_
    refine lv_if_eq (tgt := 72) hx hb dX12_declare_26 rfl (fun hc => ?_) (fun hc => ?_)
    · have h := ip hc h
      exact N_declare_72 X hP hF (lv_sub hl [1, 3, 4, 5, 6, 0] rfl) h
    · have h := ine hc h
      refine lv_iload_n hx hb dX12_declare_29 rfl (lv_at hl 4 rfl) ?_
      refine lv_iconst (v := (5:Int32)) hx hb dX12_declare_30 (by decide) ?_
      refine lv_icmp_gt (tgt := 49) hx hb dX12_declare_31 rfl (fun hc => ?_) (fun hc => ?_)
      · have h := ip hc h
        exact N_declare_49 X hP hF (lv_sub hl [1, 3, 4, 5, 6, 0] rfl) h
      · have h := ine hc h
        refine lv_aload_n hx hb dX12_declare_34 rfl (lv_at hl 1 rfl) ?_
        refine lv_iload hx hb dX12_declare_35 (lv_at hl 5 rfl) ?_
        refine lv_sipush (v := ((-9999):Int32)) hx hb dX12_declare_37 (by decide) ?_
        refine lv_sipush (v := (9999:Int32)) hx hb dX12_declare_40 (by decide) ?_
        obtain ⟨v4, hv4, h⟩ := ob h
        refine cl_in X hP hv4 ⟨Nat.le_of_ble_eq_true rfl, Nat.le_of_ble_eq_true rfl⟩ hl.1 (Nat.le_of_ble_eq_true rfl) dX12_declare_43 ?_
        refine lv_if_eq (tgt := 72) hx hb dX12_declare_46 rfl (fun hc => ?_) (fun hc => ?_)
        · have h := ip hc h
          exact N_declare_72 X hP hF (lv_sub hl [1, 3, 4, 5, 6, 0] rfl) h
        · have h := ine hc h
          exact N_declare_49 X hP hF (lv_sub hl [1, 3, 4, 5, 6, 0] rfl) h
-- declareVar(IIIIIZ)I
def f_declareVar_144  (x7 : Int32) (σ : mS) : Option (Int32 × mS) := (f_markRow (x7) σ).bind (fun v1 => some (v1.1, v1.2))
def f_declareVar_106  (x2 : Int32) (x3 : Int32) (x4 : Int32) (x5 : Int32) (x6 : Int32) (x7 : Int32) (y1 : Int32) (y2 : Int32) (σ : mS) : Option (Int32 × mS) := (f_lay ((y1 + y2)) ((11:Int32)) ((0:Int32)) (x6) (x3) (x4) (x5) σ).bind (fun v1 => if x2 = (15:Int32) then ((f_lay ((x7 + (4:Int32))) ((11:Int32)) ((0:Int32)) (x6) (x3) (x4) (x5) v1).bind (fun v2 => f_declareVar_144 (x7) v2)) else (f_declareVar_144 (x7) v1))
def f_declareVar_84  (x2 : Int32) (x3 : Int32) (x4 : Int32) (x5 : Int32) (x6 : Int32) (x7 : Int32) (y1 : Int32) (σ : mS) : Option (Int32 × mS) := (f_holds (y1) σ).bind (fun v1 => if v1.1 = (0:Int32) then (if x2 = (15:Int32) then (f_declareVar_106 (x2) (x3) (x4) (x5) (x6) (x7) (x7) ((3:Int32)) v1.2) else (f_declareVar_106 (x2) (x3) (x4) (x5) (x6) (x7) (x7) (x2) v1.2)) else (some (((-1):Int32), v1.2)))
def f_declareVar_62  (x2 : Int32) (x3 : Int32) (x4 : Int32) (x5 : Int32) (x6 : Int32) (x7 : Int32) (y0 : Int32) (σ : mS) : Option (Int32 × mS) := if (0:Int32) ≤ x7 then (if y0 = (0:Int32) then (f_declareVar_84 (x2) (x3) (x4) (x5) (x6) (x7) ((2:Int32)) σ) else (f_declareVar_84 (x2) (x3) (x4) (x5) (x6) (x7) ((0:Int32)) σ)) else (f_declareVar_84 (x2) (x3) (x4) (x5) (x6) (x7) ((1:Int32)) σ)
def f_declareVar_61  (x2 : Int32) (x3 : Int32) (x4 : Int32) (x5 : Int32) (x6 : Int32) (x7 : Int32) (σ : mS) : Option (Int32 × mS) := f_declareVar_62 (x2) (x3) (x4) (x5) (x6) (x7) ((0:Int32)) σ
def f_declareVar (x1 : Int32) (x2 : Int32) (x3 : Int32) (x4 : Int32) (x5 : Int32) (x6 : Int32) (σ : mS) : Option (Int32 × mS) := (f_rowOf (x1) σ).bind (fun v1 => (f_in (x2) ((0:Int32)) ((15:Int32))).bind (fun v2 => if v2 = (0:Int32) then (f_declareVar_61 (x2) (x3) (x4) (x5) (x6) (v1) σ) else ((f_in (x3) ((12:Int32)) ((14:Int32))).bind (fun v3 => if v3 = (0:Int32) then (f_declareVar_61 (x2) (x3) (x4) (x5) (x6) (v1) σ) else ((f_in (x4) (((-1):Int32)) ((6:Int32))).bind (fun v4 => if v4 = (0:Int32) then (f_declareVar_61 (x2) (x3) (x4) (x5) (x6) (v1) σ) else ((f_in (x5) (((-9999):Int32)) ((9999:Int32))).bind (fun v5 => if v5 = (0:Int32) then (f_declareVar_61 (x2) (x3) (x4) (x5) (x6) (v1) σ) else (f_declareVar_62 (x2) (x3) (x4) (x5) (x6) (v1) ((1:Int32)) σ)))))))))
set_option maxRecDepth 20000 in
set_option maxHeartbeats 4000000 in
theorem N_declareVar_144 {p : Program} {l : Launch} {e : Env} {s : State} {m : MethodId} {args : Array Value} {below : List Frame} {meth : Method} {c : Code} {D : mD} {mb : Nat}   {x7 : Int32} {σ : mS} {H : Heap} {locs : List Loc} {ls : Array Slot} {q : Int32 × mS} (X : mX p s m args meth c cX12_declareVar 9 (some .int) D) (hP : mP D mb σ H) (hF : mF mb s.heap H locs)  (hl : lv_has ls 9 [(0, .ref mb), (7, .int x7)]) (h : f_declareVar_144  x7 σ = some q) : mWw p l e 6 130 s m args below meth c D mb q.2 (some (.int q.1)) H locs (F0 m 144 ls []) := by
  have hx := X.1
  have hb := X.2.1
  have hown := X.2.2.2.1
  have hts := X.2.2.2.2.1
  have h : ((f_markRow (x7) σ).bind (fun v1 => some (v1.1, v1.2))) = some q := h
  refine lv_aload_n hx hb dX12_declareVar_144 rfl (lv_at hl 0 rfl) ?_
  refine lv_iload hx hb dX12_declareVar_145 (lv_at hl 1 rfl) ?_
  obtain ⟨v1, hv1, h⟩ := ob h
  refine cl_markRow X hP hF hv1 ⟨Nat.le_of_ble_eq_true rfl, Nat.le_of_ble_eq_true rfl⟩ hl.1 (Nat.le_of_ble_eq_true rfl) dX12_declareVar_147 (fun H locs hP hF => ?_)
  obtain rfl := sj h
  exact m_wi X hP hF dX12_declareVar_150
set_option maxRecDepth 20000 in
set_option maxHeartbeats 4000000 in
theorem N_declareVar_106 {p : Program} {l : Launch} {e : Env} {s : State} {m : MethodId} {args : Array Value} {below : List Frame} {meth : Method} {c : Code} {D : mD} {mb : Nat}   {x2 : Int32} {x3 : Int32} {x4 : Int32} {x5 : Int32} {x6 : Int32} {x7 : Int32} {y1 : Int32} {y2 : Int32} {σ : mS} {H : Heap} {locs : List Loc} {ls : Array Slot} {q : Int32 × mS} (X : mX p s m args meth c cX12_declareVar 9 (some .int) D) (hP : mP D mb σ H) (hF : mF mb s.heap H locs)  (hl : lv_has ls 9 [(0, .ref mb), (2, .int x2), (3, .int x3), (4, .int x4), (5, .int x5), (6, .int x6), (7, .int x7)]) (h : f_declareVar_106  x2 x3 x4 x5 x6 x7 y1 y2 σ = some q) : mWw p l e 6 130 s m args below meth c D mb q.2 (some (.int q.1)) H locs (F0 m 106 ls [.int y2, .int y1, .ref mb]) := by
  have hx := X.1
  have hb := X.2.1
  have hown := X.2.2.2.1
  have hts := X.2.2.2.2.1
  have h : ((f_lay ((y1 + y2)) ((11:Int32)) ((0:Int32)) (x6) (x3) (x4) (x5) σ).bind (fun v1 => if x2 = (15:Int32) then ((f_lay ((x7 + (4:Int32))) ((11:Int32)) ((0:Int32)) (x6) (x3) (x4) (x5) v1).bind (fun v2 => f_declareVar_144 (x7) v2)) else (f_declareVar_144 (x7) v1))) = some q := h
  refine lv_iadd hx hb dX12_declareVar_106 ?_
  refine lv_bipush (v := (11:Int32)) hx hb dX12_declareVar_107 (by decide) ?_
  refine lv_iconst (v := (0:Int32)) hx hb dX12_declareVar_109 (by decide) ?_
  refine lv_iload hx hb dX12_declareVar_110 (lv_at hl 5 rfl) ?_
  refine lv_iload_n hx hb dX12_declareVar_112 rfl (lv_at hl 2 rfl) ?_
  refine lv_iload hx hb dX12_declareVar_113 (lv_at hl 3 rfl) ?_
  refine lv_iload hx hb dX12_declareVar_115 (lv_at hl 4 rfl) ?_
  obtain ⟨v1, hv1, h⟩ := ob h
  refine cl_lay X hP hF hv1 ⟨Nat.le_of_ble_eq_true rfl, Nat.le_of_ble_eq_true rfl⟩ hl.1 (Nat.le_of_ble_eq_true rfl) dX12_declareVar_117 (fun H locs hP hF => ?_)
  refine lv_iload_n hx hb dX12_declareVar_120 rfl (lv_at hl 1 rfl) ?_
  refine lv_bipush (v := (15:Int32)) hx hb dX12_declareVar_121 (by decide) ?_
  refine lv_icmp_ne (tgt := 144) hx hb dX12_declareVar_123 rfl (fun hc => ?_) (fun hc => ?_)
  · have h := ine hc h
    exact N_declareVar_144 X hP hF (lv_sub hl [0, 6] rfl) h
  · have h := ip hc h
    refine lv_aload_n hx hb dX12_declareVar_126 rfl (lv_at hl 0 rfl) ?_
    refine lv_iload hx hb dX12_declareVar_127 (lv_at hl 6 rfl) ?_
    refine lv_iconst (v := (4:Int32)) hx hb dX12_declareVar_129 (by decide) ?_
    refine lv_iadd hx hb dX12_declareVar_130 ?_
    refine lv_bipush (v := (11:Int32)) hx hb dX12_declareVar_131 (by decide) ?_
    refine lv_iconst (v := (0:Int32)) hx hb dX12_declareVar_133 (by decide) ?_
    refine lv_iload hx hb dX12_declareVar_134 (lv_at hl 5 rfl) ?_
    refine lv_iload_n hx hb dX12_declareVar_136 rfl (lv_at hl 2 rfl) ?_
    refine lv_iload hx hb dX12_declareVar_137 (lv_at hl 3 rfl) ?_
    refine lv_iload hx hb dX12_declareVar_139 (lv_at hl 4 rfl) ?_
    obtain ⟨v2, hv2, h⟩ := ob h
    refine cl_lay X hP hF hv2 ⟨Nat.le_of_ble_eq_true rfl, Nat.le_of_ble_eq_true rfl⟩ hl.1 (Nat.le_of_ble_eq_true rfl) dX12_declareVar_141 (fun H locs hP hF => ?_)
    exact N_declareVar_144 X hP hF (lv_sub hl [0, 6] rfl) h
set_option maxRecDepth 20000 in
set_option maxHeartbeats 4000000 in
theorem N_declareVar_84 {p : Program} {l : Launch} {e : Env} {s : State} {m : MethodId} {args : Array Value} {below : List Frame} {meth : Method} {c : Code} {D : mD} {mb : Nat}   {x2 : Int32} {x3 : Int32} {x4 : Int32} {x5 : Int32} {x6 : Int32} {x7 : Int32} {y1 : Int32} {σ : mS} {H : Heap} {locs : List Loc} {ls : Array Slot} {q : Int32 × mS} (X : mX p s m args meth c cX12_declareVar 9 (some .int) D) (hP : mP D mb σ H) (hF : mF mb s.heap H locs)  (hl : lv_has ls 9 [(0, .ref mb), (2, .int x2), (3, .int x3), (4, .int x4), (5, .int x5), (6, .int x6), (7, .int x7)]) (h : f_declareVar_84  x2 x3 x4 x5 x6 x7 y1 σ = some q) : mWw p l e 6 130 s m args below meth c D mb q.2 (some (.int q.1)) H locs (F0 m 84 ls [.int y1, .ref mb]) := by
  have hx := X.1
  have hb := X.2.1
  have hown := X.2.2.2.1
  have hts := X.2.2.2.2.1
  have h : ((f_holds (y1) σ).bind (fun v1 => if v1.1 = (0:Int32) then (if x2 = (15:Int32) then (f_declareVar_106 (x2) (x3) (x4) (x5) (x6) (x7) (x7) ((3:Int32)) v1.2) else (f_declareVar_106 (x2) (x3) (x4) (x5) (x6) (x7) (x7) (x2) v1.2)) else (some (((-1):Int32), v1.2)))) = some q := h
  obtain ⟨v1, hv1, h⟩ := ob h
  refine cl_holds X hP hF hv1 ⟨Nat.le_of_ble_eq_true rfl, Nat.le_of_ble_eq_true rfl⟩ hl.1 (Nat.le_of_ble_eq_true rfl) dX12_declareVar_84 (fun H locs hP hF => ?_)
  refine lv_if_eq (tgt := 92) hx hb dX12_declareVar_87 rfl (fun hc => ?_) (fun hc => ?_)
  · have h := ip hc h
    refine lv_aload_n hx hb dX12_declareVar_92 rfl (lv_at hl 0 rfl) ?_
    refine lv_iload hx hb dX12_declareVar_93 (lv_at hl 6 rfl) ?_
    refine lv_iload_n hx hb dX12_declareVar_95 rfl (lv_at hl 1 rfl) ?_
    refine lv_bipush (v := (15:Int32)) hx hb dX12_declareVar_96 (by decide) ?_
    refine lv_icmp_ne (tgt := 105) hx hb dX12_declareVar_98 rfl (fun hc => ?_) (fun hc => ?_)
    · have h := ine hc h
      refine lv_iload_n hx hb dX12_declareVar_105 rfl (lv_at hl 1 rfl) ?_
      exact N_declareVar_106 X hP hF (lv_sub hl [0, 1, 2, 3, 4, 5, 6] rfl) h
    · have h := ip hc h
      refine lv_iconst (v := (3:Int32)) hx hb dX12_declareVar_101 (by decide) ?_
      refine lv_goto (tgt := 106) hx hb dX12_declareVar_102 rfl ?_
      exact N_declareVar_106 X hP hF (lv_sub hl [0, 1, 2, 3, 4, 5, 6] rfl) h
  · have h := ine hc h
    refine lv_iconst (v := ((-1):Int32)) hx hb dX12_declareVar_90 (by decide) ?_
    obtain rfl := sj h
    exact m_wi X hP hF dX12_declareVar_91
set_option maxRecDepth 20000 in
set_option maxHeartbeats 4000000 in
theorem N_declareVar_62 {p : Program} {l : Launch} {e : Env} {s : State} {m : MethodId} {args : Array Value} {below : List Frame} {meth : Method} {c : Code} {D : mD} {mb : Nat}   {x2 : Int32} {x3 : Int32} {x4 : Int32} {x5 : Int32} {x6 : Int32} {x7 : Int32} {y0 : Int32} {σ : mS} {H : Heap} {locs : List Loc} {ls : Array Slot} {q : Int32 × mS} (X : mX p s m args meth c cX12_declareVar 9 (some .int) D) (hP : mP D mb σ H) (hF : mF mb s.heap H locs)  (hl : lv_has ls 9 [(0, .ref mb), (2, .int x2), (3, .int x3), (4, .int x4), (5, .int x5), (6, .int x6), (7, .int x7)]) (h : f_declareVar_62  x2 x3 x4 x5 x6 x7 y0 σ = some q) : mWw p l e 6 130 s m args below meth c D mb q.2 (some (.int q.1)) H locs (F0 m 62 ls [.int y0]) := by
  have hx := X.1
  have hb := X.2.1
  have hown := X.2.2.2.1
  have hts := X.2.2.2.2.1
  have h : (if (0:Int32) ≤ x7 then (if y0 = (0:Int32) then (f_declareVar_84 (x2) (x3) (x4) (x5) (x6) (x7) ((2:Int32)) σ) else (f_declareVar_84 (x2) (x3) (x4) (x5) (x6) (x7) ((0:Int32)) σ)) else (f_declareVar_84 (x2) (x3) (x4) (x5) (x6) (x7) ((1:Int32)) σ)) = some q := h
  refine lv_istore hx hb dX12_declareVar_62 hl (Nat.le_of_ble_eq_true rfl) rfl (fun ls (hl : lv_has ls 9 [(8, .int y0), (0, .ref mb), (2, .int x2), (3, .int x3), (4, .int x4), (5, .int x5), (6, .int x6), (7, .int x7)]) => ?_)
  refine lv_aload_n hx hb dX12_declareVar_64 rfl (lv_at hl 1 rfl) ?_
  refine lv_iload hx hb dX12_declareVar_65 (lv_at hl 7 rfl) ?_
  refine lv_if_ge (tgt := 74) hx hb dX12_declareVar_67 rfl (fun hc => ?_) (fun hc => ?_)
  · have h := ip hc h
    refine lv_iload hx hb dX12_declareVar_74 (lv_at hl 0 rfl) ?_
    refine lv_if_eq (tgt := 83) hx hb dX12_declareVar_76 rfl (fun hc => ?_) (fun hc => ?_)
    · have h := ip hc h
      refine lv_iconst (v := (2:Int32)) hx hb dX12_declareVar_83 (by decide) ?_
      exact N_declareVar_84 X hP hF (lv_sub hl [1, 2, 3, 4, 5, 6, 7] rfl) h
    · have h := ine hc h
      refine lv_iconst (v := (0:Int32)) hx hb dX12_declareVar_79 (by decide) ?_
      refine lv_goto (tgt := 84) hx hb dX12_declareVar_80 rfl ?_
      exact N_declareVar_84 X hP hF (lv_sub hl [1, 2, 3, 4, 5, 6, 7] rfl) h
  · have h := ine hc h
    refine lv_iconst (v := (1:Int32)) hx hb dX12_declareVar_70 (by decide) ?_
    refine lv_goto (tgt := 84) hx hb dX12_declareVar_71 rfl ?_
    exact N_declareVar_84 X hP hF (lv_sub hl [1, 2, 3, 4, 5, 6, 7] rfl) h
set_option maxRecDepth 20000 in
set_option maxHeartbeats 4000000 in
theorem N_declareVar_61 {p : Program} {l : Launch} {e : Env} {s : State} {m : MethodId} {args : Array Value} {below : List Frame} {meth : Method} {c : Code} {D : mD} {mb : Nat}   {x2 : Int32} {x3 : Int32} {x4 : Int32} {x5 : Int32} {x6 : Int32} {x7 : Int32} {σ : mS} {H : Heap} {locs : List Loc} {ls : Array Slot} {q : Int32 × mS} (X : mX p s m args meth c cX12_declareVar 9 (some .int) D) (hP : mP D mb σ H) (hF : mF mb s.heap H locs)  (hl : lv_has ls 9 [(0, .ref mb), (2, .int x2), (3, .int x3), (4, .int x4), (5, .int x5), (6, .int x6), (7, .int x7)]) (h : f_declareVar_61  x2 x3 x4 x5 x6 x7 σ = some q) : mWw p l e 6 130 s m args below meth c D mb q.2 (some (.int q.1)) H locs (F0 m 61 ls []) := by
  have hx := X.1
  have hb := X.2.1
  have hown := X.2.2.2.1
  have hts := X.2.2.2.2.1
  have h : (f_declareVar_62 (x2) (x3) (x4) (x5) (x6) (x7) ((0:Int32)) σ) = some q := h
  refine lv_iconst (v := (0:Int32)) hx hb dX12_declareVar_61 (by decide) ?_
  exact N_declareVar_62 X hP hF (lv_sub hl [0, 1, 2, 3, 4, 5, 6] rfl) h
set_option maxRecDepth 20000 in
set_option maxHeartbeats 4000000 in
theorem K_declareVar (l : Launch) (D : mD) (mb : Nat) (σ : mS) (x1 : Int32) (x2 : Int32) (x3 : Int32) (x4 : Int32) (x5 : Int32) (x6 : Int32) {q : Int32 × mS} (h : f_declareVar x1 x2 x3 x4 x5 x6 σ = some q) : Met l yX12_declareVar (Cond.code yX12_declareVar cX12_declareVar 9 (some .int) :: BG) (rM 6 130) (mPc D mb σ [.int x1, .int x2, .int x3, .int x4, .int x5, .int x6]) (mQw D mb q.2 (some (.int q.1))) 0 0 (mReg mb) := by
  refine Met.ofW (cc := cX12_declareVar) (maxL := 9) (ret := (some .int)) (by decide) rfl ?_
  intro p e s m args below meth c s₁ B hml hv
  obtain ⟨rfl, hP, hK⟩ := hv
  have X := mX_of B hml rfl hK
  have hx := X.1
  have hb := X.2.1
  have hown := X.2.2.2.1
  have hts := X.2.2.2.2.1
  have hl := lv_entry (.ref mb :: [.int x1, .int x2, .int x3, .int x4, .int x5, .int x6]) (n := 9) (Nat.le_of_ble_eq_true rfl)
  rw [lg_entry_eq]
  generalize (lg_sl (.ref mb :: [.int x1, .int x2, .int x3, .int x4, .int x5, .int x6]) ++ List.replicate (9 - (lg_sl (.ref mb :: [.int x1, .int x2, .int x3, .int x4, .int x5, .int x6])).length) Slot.unset).toArray = ls at hl ⊢
  have hl : lv_has ls 9 [(0, .ref mb), (1, .int x1), (2, .int x2), (3, .int x3), (4, .int x4), (5, .int x5), (6, .int x6)] := hl
  have hF : mF mb s.heap s.heap [] := mF.rf
  show mWw p l e 6 130 s m (Value.ref mb :: [.int x1, .int x2, .int x3, .int x4, .int x5, .int x6]).toArray below meth c D mb q.2 (some (.int q.1)) s.heap [] (F0 m 0 ls [])
  have h : ((f_rowOf (x1) σ).bind (fun v1 => (f_in (x2) ((0:Int32)) ((15:Int32))).bind (fun v2 => if v2 = (0:Int32) then (f_declareVar_61 (x2) (x3) (x4) (x5) (x6) (v1) σ) else ((f_in (x3) ((12:Int32)) ((14:Int32))).bind (fun v3 => if v3 = (0:Int32) then (f_declareVar_61 (x2) (x3) (x4) (x5) (x6) (v1) σ) else ((f_in (x4) (((-1):Int32)) ((6:Int32))).bind (fun v4 => if v4 = (0:Int32) then (f_declareVar_61 (x2) (x3) (x4) (x5) (x6) (v1) σ) else ((f_in (x5) (((-9999):Int32)) ((9999:Int32))).bind (fun v5 => if v5 = (0:Int32) then (f_declareVar_61 (x2) (x3) (x4) (x5) (x6) (v1) σ) else (f_declareVar_62 (x2) (x3) (x4) (x5) (x6) (v1) ((1:Int32)) σ)))))))))) = some q := h
  refine lv_aload_n hx hb dX12_declareVar_0 rfl (lv_at hl 0 rfl) ?_
  refine lv_iload_n hx hb dX12_declareVar_1 rfl (lv_at hl 1 rfl) ?_
  obtain ⟨v1, hv1, h⟩ := ob h
  refine cl_rowOf X hP hv1 ⟨Nat.le_of_ble_eq_true rfl, Nat.le_of_ble_eq_true rfl⟩ hl.1 (Nat.le_of_ble_eq_true rfl) dX12_declareVar_2 ?_
  refine lv_istore hx hb dX12_declareVar_5 hl (Nat.le_of_ble_eq_true rfl) rfl (fun ls (hl : lv_has ls 9 [(7, .int v1), (0, .ref mb), (1, .int x1), (2, .int x2), (3, .int x3), (4, .int x4), (5, .int x5), (6, .int x6)]) => ?_)
  refine lv_aload_n hx hb dX12_declareVar_7 rfl (lv_at hl 1 rfl) ?_
  refine lv_iload_n hx hb dX12_declareVar_8 rfl (lv_at hl 3 rfl) ?_
  refine lv_iconst (v := (0:Int32)) hx hb dX12_declareVar_9 (by decide) ?_
  refine lv_bipush (v := (15:Int32)) hx hb dX12_declareVar_10 (by decide) ?_
  obtain ⟨v2, hv2, h⟩ := ob h
  refine cl_in X hP hv2 ⟨Nat.le_of_ble_eq_true rfl, Nat.le_of_ble_eq_true rfl⟩ hl.1 (Nat.le_of_ble_eq_true rfl) dX12_declareVar_12 ?_
  refine lv_if_eq (tgt := 61) hx hb dX12_declareVar_15 rfl (fun hc => ?_) (fun hc => ?_)
  · have h := ip hc h
    exact N_declareVar_61 X hP hF (lv_sub hl [1, 3, 4, 5, 6, 7, 0] rfl) h
  · have h := ine hc h
    refine lv_aload_n hx hb dX12_declareVar_18 rfl (lv_at hl 1 rfl) ?_
    refine lv_iload_n hx hb dX12_declareVar_19 rfl (lv_at hl 4 rfl) ?_
    refine lv_bipush (v := (12:Int32)) hx hb dX12_declareVar_20 (by decide) ?_
    refine lv_bipush (v := (14:Int32)) hx hb dX12_declareVar_22 (by decide) ?_
    obtain ⟨v3, hv3, h⟩ := ob h
    refine cl_in X hP hv3 ⟨Nat.le_of_ble_eq_true rfl, Nat.le_of_ble_eq_true rfl⟩ hl.1 (Nat.le_of_ble_eq_true rfl) dX12_declareVar_24 ?_
    refine lv_if_eq (tgt := 61) hx hb dX12_declareVar_27 rfl (fun hc => ?_) (fun hc => ?_)
    · have h := ip hc h
      exact N_declareVar_61 X hP hF (lv_sub hl [1, 3, 4, 5, 6, 7, 0] rfl) h
    · have h := ine hc h
      refine lv_aload_n hx hb dX12_declareVar_30 rfl (lv_at hl 1 rfl) ?_
      refine lv_iload hx hb dX12_declareVar_31 (lv_at hl 5 rfl) ?_
      refine lv_iconst (v := ((-1):Int32)) hx hb dX12_declareVar_33 (by decide) ?_
      refine lv_bipush (v := (6:Int32)) hx hb dX12_declareVar_34 (by decide) ?_
      obtain ⟨v4, hv4, h⟩ := ob h
      refine cl_in X hP hv4 ⟨Nat.le_of_ble_eq_true rfl, Nat.le_of_ble_eq_true rfl⟩ hl.1 (Nat.le_of_ble_eq_true rfl) dX12_declareVar_36 ?_
      refine lv_if_eq (tgt := 61) hx hb dX12_declareVar_39 rfl (fun hc => ?_) (fun hc => ?_)
      · have h := ip hc h
        exact N_declareVar_61 X hP hF (lv_sub hl [1, 3, 4, 5, 6, 7, 0] rfl) h
      · have h := ine hc h
        refine lv_aload_n hx hb dX12_declareVar_42 rfl (lv_at hl 1 rfl) ?_
        refine lv_iload hx hb dX12_declareVar_43 (lv_at hl 6 rfl) ?_
        refine lv_sipush (v := ((-9999):Int32)) hx hb dX12_declareVar_45 (by decide) ?_
        refine lv_sipush (v := (9999:Int32)) hx hb dX12_declareVar_48 (by decide) ?_
        obtain ⟨v5, hv5, h⟩ := ob h
        refine cl_in X hP hv5 ⟨Nat.le_of_ble_eq_true rfl, Nat.le_of_ble_eq_true rfl⟩ hl.1 (Nat.le_of_ble_eq_true rfl) dX12_declareVar_51 ?_
        refine lv_if_eq (tgt := 61) hx hb dX12_declareVar_54 rfl (fun hc => ?_) (fun hc => ?_)
        · have h := ip hc h
          exact N_declareVar_61 X hP hF (lv_sub hl [1, 3, 4, 5, 6, 7, 0] rfl) h
        · have h := ine hc h
          refine lv_iconst (v := (1:Int32)) hx hb dX12_declareVar_57 (by decide) ?_
          refine lv_goto (tgt := 62) hx hb dX12_declareVar_58 rfl ?_
          exact N_declareVar_62 X hP hF (lv_sub hl [1, 3, 4, 5, 6, 7, 0] rfl) h
-- undeclare(II)I
def f_undeclare_73  (x3 : Int32) (σ : mS) : Option (Int32 × mS) := (f_markRow (x3) σ).bind (fun v1 => some (v1.1, v1.2))
def f_undeclare_55  (x2 : Int32) (x3 : Int32) (y1 : Int32) (y2 : Int32) (σ : mS) : Option (Int32 × mS) := (wr σ 37 (y1 + y2) ((-1):Int32)).bind (fun s1 => if x2 = (15:Int32) then ((wr s1 37 (x3 + (4:Int32)) ((-1):Int32)).bind (fun s2 => f_undeclare_73 (x3) s2)) else (f_undeclare_73 (x3) s1))
def f_undeclare_31  (x2 : Int32) (x3 : Int32) (y1 : Int32) (σ : mS) : Option (Int32 × mS) := (f_holds (y1) σ).bind (fun v1 => if v1.1 = (0:Int32) then (if x2 = (15:Int32) then (f_undeclare_55 (x2) (x3) (x3) ((3:Int32)) v1.2) else (f_undeclare_55 (x2) (x3) (x3) (x2) v1.2)) else (some (((-1):Int32), v1.2)))
def f_undeclare (x1 : Int32) (x2 : Int32) (σ : mS) : Option (Int32 × mS) := (f_rowOf (x1) σ).bind (fun v1 => if (0:Int32) ≤ v1 then ((f_in (x2) ((0:Int32)) ((15:Int32))).bind (fun v2 => if v2 = (0:Int32) then (f_undeclare_31 (x2) (v1) ((2:Int32)) σ) else (f_undeclare_31 (x2) (v1) ((0:Int32)) σ))) else (f_undeclare_31 (x2) (v1) ((1:Int32)) σ))
set_option maxRecDepth 20000 in
set_option maxHeartbeats 4000000 in
theorem N_undeclare_73 {p : Program} {l : Launch} {e : Env} {s : State} {m : MethodId} {args : Array Value} {below : List Frame} {meth : Method} {c : Code} {D : mD} {mb : Nat}   {x3 : Int32} {σ : mS} {H : Heap} {locs : List Loc} {ls : Array Slot} {q : Int32 × mS} (X : mX p s m args meth c cX12_undeclare 4 (some .int) D) (hP : mP D mb σ H) (hF : mF mb s.heap H locs)  (hl : lv_has ls 4 [(0, .ref mb), (3, .int x3)]) (h : f_undeclare_73  x3 σ = some q) : mWw p l e 6 130 s m args below meth c D mb q.2 (some (.int q.1)) H locs (F0 m 73 ls []) := by
  have hx := X.1
  have hb := X.2.1
  have hown := X.2.2.2.1
  have hts := X.2.2.2.2.1
  have h : ((f_markRow (x3) σ).bind (fun v1 => some (v1.1, v1.2))) = some q := h
  refine lv_aload_n hx hb dX12_undeclare_73 rfl (lv_at hl 0 rfl) ?_
  refine lv_iload_n hx hb dX12_undeclare_74 rfl (lv_at hl 1 rfl) ?_
  obtain ⟨v1, hv1, h⟩ := ob h
  refine cl_markRow X hP hF hv1 ⟨Nat.le_of_ble_eq_true rfl, Nat.le_of_ble_eq_true rfl⟩ hl.1 (Nat.le_of_ble_eq_true rfl) dX12_undeclare_75 (fun H locs hP hF => ?_)
  obtain rfl := sj h
  exact m_wi X hP hF dX12_undeclare_78
set_option maxRecDepth 20000 in
set_option maxHeartbeats 4000000 in
theorem N_undeclare_55 {p : Program} {l : Launch} {e : Env} {s : State} {m : MethodId} {args : Array Value} {below : List Frame} {meth : Method} {c : Code} {D : mD} {mb : Nat}   {x2 : Int32} {x3 : Int32} {y1 : Int32} {y2 : Int32} {σ : mS} {H : Heap} {locs : List Loc} {ls : Array Slot} {q : Int32 × mS} (X : mX p s m args meth c cX12_undeclare 4 (some .int) D) (hP : mP D mb σ H) (hF : mF mb s.heap H locs)  (hl : lv_has ls 4 [(0, .ref mb), (2, .int x2), (3, .int x3)]) (h : f_undeclare_55  x2 x3 y1 y2 σ = some q) : mWw p l e 6 130 s m args below meth c D mb q.2 (some (.int q.1)) H locs (F0 m 55 ls [.int y2, .int y1, .ref (mA mb 37)]) := by
  have hx := X.1
  have hb := X.2.1
  have hown := X.2.2.2.1
  have hts := X.2.2.2.2.1
  have h : ((wr σ 37 (y1 + y2) ((-1):Int32)).bind (fun s1 => if x2 = (15:Int32) then ((wr s1 37 (x3 + (4:Int32)) ((-1):Int32)).bind (fun s2 => f_undeclare_73 (x3) s2)) else (f_undeclare_73 (x3) s1))) = some q := h
  refine lv_iadd hx hb dX12_undeclare_55 ?_
  refine lv_iconst (v := ((-1):Int32)) hx hb dX12_undeclare_56 (by decide) ?_
  obtain ⟨s1, hs1, h⟩ := ob h
  refine m_ast X hP hF hs1 dX12_undeclare_57 (fun H locs hP hF => ?_)
  refine lv_iload_n hx hb dX12_undeclare_58 rfl (lv_at hl 1 rfl) ?_
  refine lv_bipush (v := (15:Int32)) hx hb dX12_undeclare_59 (by decide) ?_
  refine lv_icmp_ne (tgt := 73) hx hb dX12_undeclare_61 rfl (fun hc => ?_) (fun hc => ?_)
  · have h := ine hc h
    exact N_undeclare_73 X hP hF (lv_sub hl [0, 2] rfl) h
  · have h := ip hc h
    refine lv_aload_n hx hb dX12_undeclare_64 rfl (lv_at hl 0 rfl) ?_
    refine mg_du X hP dX12_undeclare_65 ?_
    refine lv_iload_n hx hb dX12_undeclare_68 rfl (lv_at hl 2 rfl) ?_
    refine lv_iconst (v := (4:Int32)) hx hb dX12_undeclare_69 (by decide) ?_
    refine lv_iadd hx hb dX12_undeclare_70 ?_
    refine lv_iconst (v := ((-1):Int32)) hx hb dX12_undeclare_71 (by decide) ?_
    obtain ⟨s2, hs2, h⟩ := ob h
    refine m_ast X hP hF hs2 dX12_undeclare_72 (fun H locs hP hF => ?_)
    exact N_undeclare_73 X hP hF (lv_sub hl [0, 2] rfl) h
set_option maxRecDepth 20000 in
set_option maxHeartbeats 4000000 in
theorem N_undeclare_31 {p : Program} {l : Launch} {e : Env} {s : State} {m : MethodId} {args : Array Value} {below : List Frame} {meth : Method} {c : Code} {D : mD} {mb : Nat}   {x2 : Int32} {x3 : Int32} {y1 : Int32} {σ : mS} {H : Heap} {locs : List Loc} {ls : Array Slot} {q : Int32 × mS} (X : mX p s m args meth c cX12_undeclare 4 (some .int) D) (hP : mP D mb σ H) (hF : mF mb s.heap H locs)  (hl : lv_has ls 4 [(0, .ref mb), (2, .int x2), (3, .int x3)]) (h : f_undeclare_31  x2 x3 y1 σ = some q) : mWw p l e 6 130 s m args below meth c D mb q.2 (some (.int q.1)) H locs (F0 m 31 ls [.int y1, .ref mb]) := by
  have hx := X.1
  have hb := X.2.1
  have hown := X.2.2.2.1
  have hts := X.2.2.2.2.1
  have h : ((f_holds (y1) σ).bind (fun v1 => if v1.1 = (0:Int32) then (if x2 = (15:Int32) then (f_undeclare_55 (x2) (x3) (x3) ((3:Int32)) v1.2) else (f_undeclare_55 (x2) (x3) (x3) (x2) v1.2)) else (some (((-1):Int32), v1.2)))) = some q := h
  obtain ⟨v1, hv1, h⟩ := ob h
  refine cl_holds X hP hF hv1 ⟨Nat.le_of_ble_eq_true rfl, Nat.le_of_ble_eq_true rfl⟩ hl.1 (Nat.le_of_ble_eq_true rfl) dX12_undeclare_31 (fun H locs hP hF => ?_)
  refine lv_if_eq (tgt := 39) hx hb dX12_undeclare_34 rfl (fun hc => ?_) (fun hc => ?_)
  · have h := ip hc h
    refine lv_aload_n hx hb dX12_undeclare_39 rfl (lv_at hl 0 rfl) ?_
    refine mg_du X hP dX12_undeclare_40 ?_
    refine lv_iload_n hx hb dX12_undeclare_43 rfl (lv_at hl 2 rfl) ?_
    refine lv_iload_n hx hb dX12_undeclare_44 rfl (lv_at hl 1 rfl) ?_
    refine lv_bipush (v := (15:Int32)) hx hb dX12_undeclare_45 (by decide) ?_
    refine lv_icmp_ne (tgt := 54) hx hb dX12_undeclare_47 rfl (fun hc => ?_) (fun hc => ?_)
    · have h := ine hc h
      refine lv_iload_n hx hb dX12_undeclare_54 rfl (lv_at hl 1 rfl) ?_
      exact N_undeclare_55 X hP hF (lv_sub hl [0, 1, 2] rfl) h
    · have h := ip hc h
      refine lv_iconst (v := (3:Int32)) hx hb dX12_undeclare_50 (by decide) ?_
      refine lv_goto (tgt := 55) hx hb dX12_undeclare_51 rfl ?_
      exact N_undeclare_55 X hP hF (lv_sub hl [0, 1, 2] rfl) h
  · have h := ine hc h
    refine lv_iconst (v := ((-1):Int32)) hx hb dX12_undeclare_37 (by decide) ?_
    obtain rfl := sj h
    exact m_wi X hP hF dX12_undeclare_38
set_option maxRecDepth 20000 in
set_option maxHeartbeats 4000000 in
theorem K_undeclare (l : Launch) (D : mD) (mb : Nat) (σ : mS) (x1 : Int32) (x2 : Int32) {q : Int32 × mS} (h : f_undeclare x1 x2 σ = some q) : Met l yX12_undeclare (Cond.code yX12_undeclare cX12_undeclare 4 (some .int) :: BG) (rM 6 130) (mPc D mb σ [.int x1, .int x2]) (mQw D mb q.2 (some (.int q.1))) 0 0 (mReg mb) := by
  refine Met.ofW (cc := cX12_undeclare) (maxL := 4) (ret := (some .int)) (by decide) rfl ?_
  intro p e s m args below meth c s₁ B hml hv
  obtain ⟨rfl, hP, hK⟩ := hv
  have X := mX_of B hml rfl hK
  have hx := X.1
  have hb := X.2.1
  have hown := X.2.2.2.1
  have hts := X.2.2.2.2.1
  have hl := lv_entry (.ref mb :: [.int x1, .int x2]) (n := 4) (Nat.le_of_ble_eq_true rfl)
  rw [lg_entry_eq]
  generalize (lg_sl (.ref mb :: [.int x1, .int x2]) ++ List.replicate (4 - (lg_sl (.ref mb :: [.int x1, .int x2])).length) Slot.unset).toArray = ls at hl ⊢
  have hl : lv_has ls 4 [(0, .ref mb), (1, .int x1), (2, .int x2)] := hl
  have hF : mF mb s.heap s.heap [] := mF.rf
  show mWw p l e 6 130 s m (Value.ref mb :: [.int x1, .int x2]).toArray below meth c D mb q.2 (some (.int q.1)) s.heap [] (F0 m 0 ls [])
  have h : ((f_rowOf (x1) σ).bind (fun v1 => if (0:Int32) ≤ v1 then ((f_in (x2) ((0:Int32)) ((15:Int32))).bind (fun v2 => if v2 = (0:Int32) then (f_undeclare_31 (x2) (v1) ((2:Int32)) σ) else (f_undeclare_31 (x2) (v1) ((0:Int32)) σ))) else (f_undeclare_31 (x2) (v1) ((1:Int32)) σ))) = some q := h
  refine lv_aload_n hx hb dX12_undeclare_0 rfl (lv_at hl 0 rfl) ?_
  refine lv_iload_n hx hb dX12_undeclare_1 rfl (lv_at hl 1 rfl) ?_
  obtain ⟨v1, hv1, h⟩ := ob h
  refine cl_rowOf X hP hv1 ⟨Nat.le_of_ble_eq_true rfl, Nat.le_of_ble_eq_true rfl⟩ hl.1 (Nat.le_of_ble_eq_true rfl) dX12_undeclare_2 ?_
  refine lv_istore_n hx hb dX12_undeclare_5 rfl hl (Nat.le_of_ble_eq_true rfl) rfl (fun ls (hl : lv_has ls 4 [(3, .int v1), (0, .ref mb), (1, .int x1), (2, .int x2)]) => ?_)
  refine lv_aload_n hx hb dX12_undeclare_6 rfl (lv_at hl 1 rfl) ?_
  refine lv_iload_n hx hb dX12_undeclare_7 rfl (lv_at hl 0 rfl) ?_
  refine lv_if_ge (tgt := 15) hx hb dX12_undeclare_8 rfl (fun hc => ?_) (fun hc => ?_)
  · have h := ip hc h
    refine lv_aload_n hx hb dX12_undeclare_15 rfl (lv_at hl 1 rfl) ?_
    refine lv_iload_n hx hb dX12_undeclare_16 rfl (lv_at hl 3 rfl) ?_
    refine lv_iconst (v := (0:Int32)) hx hb dX12_undeclare_17 (by decide) ?_
    refine lv_bipush (v := (15:Int32)) hx hb dX12_undeclare_18 (by decide) ?_
    obtain ⟨v2, hv2, h⟩ := ob h
    refine cl_in X hP hv2 ⟨Nat.le_of_ble_eq_true rfl, Nat.le_of_ble_eq_true rfl⟩ hl.1 (Nat.le_of_ble_eq_true rfl) dX12_undeclare_20 ?_
    refine lv_if_eq (tgt := 30) hx hb dX12_undeclare_23 rfl (fun hc => ?_) (fun hc => ?_)
    · have h := ip hc h
      refine lv_iconst (v := (2:Int32)) hx hb dX12_undeclare_30 (by decide) ?_
      exact N_undeclare_31 X hP hF (lv_sub hl [1, 3, 0] rfl) h
    · have h := ine hc h
      refine lv_iconst (v := (0:Int32)) hx hb dX12_undeclare_26 (by decide) ?_
      refine lv_goto (tgt := 31) hx hb dX12_undeclare_27 rfl ?_
      exact N_undeclare_31 X hP hF (lv_sub hl [1, 3, 0] rfl) h
  · have h := ine hc h
    refine lv_iconst (v := (1:Int32)) hx hb dX12_undeclare_11 (by decide) ?_
    refine lv_goto (tgt := 31) hx hb dX12_undeclare_12 rfl ?_
    exact N_undeclare_31 X hP hF (lv_sub hl [1, 3, 0] rfl) h
-- setWidth(I)I
def f_setWidth_18  (x1 : Int32) (y1 : Int32) (σ : mS) : Option (Int32 × mS) := (f_holds (y1) σ).bind (fun v1 => if v1.1 = (0:Int32) then ((f_markAll  (sf v1.2 50 x1)).bind (fun v2 => some ((v1.2.2 50), v2))) else (some (((-1):Int32), v1.2)))
def f_setWidth (x1 : Int32) (σ : mS) : Option (Int32 × mS) := (f_in (x1) ((0:Int32)) ((9999:Int32))).bind (fun v1 => if v1 = (0:Int32) then (f_setWidth_18 (x1) ((1:Int32)) σ) else (f_setWidth_18 (x1) ((0:Int32)) σ))
set_option maxRecDepth 20000 in
set_option maxHeartbeats 4000000 in
theorem N_setWidth_18 {p : Program} {l : Launch} {e : Env} {s : State} {m : MethodId} {args : Array Value} {below : List Frame} {meth : Method} {c : Code} {D : mD} {mb : Nat}   {x1 : Int32} {y1 : Int32} {σ : mS} {H : Heap} {locs : List Loc} {ls : Array Slot} {q : Int32 × mS} (X : mX p s m args meth c cX12_setWidth 3 (some .int) D) (hP : mP D mb σ H) (hF : mF mb s.heap H locs)  (hl : lv_has ls 3 [(0, .ref mb), (1, .int x1)]) (h : f_setWidth_18  x1 y1 σ = some q) : mWw p l e 5 108 s m args below meth c D mb q.2 (some (.int q.1)) H locs (F0 m 18 ls [.int y1, .ref mb]) := by
  have hx := X.1
  have hb := X.2.1
  have hown := X.2.2.2.1
  have hts := X.2.2.2.2.1
  have h : ((f_holds (y1) σ).bind (fun v1 => if v1.1 = (0:Int32) then ((f_markAll  (sf v1.2 50 x1)).bind (fun v2 => some ((v1.2.2 50), v2))) else (some (((-1):Int32), v1.2)))) = some q := h
  obtain ⟨v1, hv1, h⟩ := ob h
  refine cl_holds X hP hF hv1 ⟨Nat.le_of_ble_eq_true rfl, Nat.le_of_ble_eq_true rfl⟩ hl.1 (Nat.le_of_ble_eq_true rfl) dX12_setWidth_18 (fun H locs hP hF => ?_)
  refine lv_if_eq (tgt := 26) hx hb dX12_setWidth_21 rfl (fun hc => ?_) (fun hc => ?_)
  · have h := ip hc h
    refine lv_aload_n hx hb dX12_setWidth_26 rfl (lv_at hl 0 rfl) ?_
    refine mg_width X hP dX12_setWidth_27 ?_
    refine lv_istore_n hx hb dX12_setWidth_30 rfl hl (Nat.le_of_ble_eq_true rfl) rfl (fun ls (hl : lv_has ls 3 [(2, .int (v1.2.2 50)), (0, .ref mb), (1, .int x1)]) => ?_)
    refine lv_aload_n hx hb dX12_setWidth_31 rfl (lv_at hl 1 rfl) ?_
    refine lv_iload_n hx hb dX12_setWidth_32 rfl (lv_at hl 2 rfl) ?_
    refine mp_width X hP hF dX12_setWidth_33 (fun H locs hP hF => ?_)
    refine lv_aload_n hx hb dX12_setWidth_36 rfl (lv_at hl 1 rfl) ?_
    obtain ⟨v2, hv2, h⟩ := ob h
    refine cl_markAll X hP hF hv2 ⟨Nat.le_of_ble_eq_true rfl, Nat.le_of_ble_eq_true rfl⟩ hl.1 (Nat.le_of_ble_eq_true rfl) dX12_setWidth_37 (fun H locs hP hF => ?_)
    refine lv_iload_n hx hb dX12_setWidth_40 rfl (lv_at hl 0 rfl) ?_
    obtain rfl := sj h
    exact m_wi X hP hF dX12_setWidth_41
  · have h := ine hc h
    refine lv_iconst (v := ((-1):Int32)) hx hb dX12_setWidth_24 (by decide) ?_
    obtain rfl := sj h
    exact m_wi X hP hF dX12_setWidth_25
set_option maxRecDepth 20000 in
set_option maxHeartbeats 4000000 in
theorem K_setWidth (l : Launch) (D : mD) (mb : Nat) (σ : mS) (x1 : Int32) {q : Int32 × mS} (h : f_setWidth x1 σ = some q) : Met l yX12_setWidth (Cond.code yX12_setWidth cX12_setWidth 3 (some .int) :: BG) (rM 5 108) (mPc D mb σ [.int x1]) (mQw D mb q.2 (some (.int q.1))) 0 0 (mReg mb) := by
  refine Met.ofW (cc := cX12_setWidth) (maxL := 3) (ret := (some .int)) (by decide) rfl ?_
  intro p e s m args below meth c s₁ B hml hv
  obtain ⟨rfl, hP, hK⟩ := hv
  have X := mX_of B hml rfl hK
  have hx := X.1
  have hb := X.2.1
  have hown := X.2.2.2.1
  have hts := X.2.2.2.2.1
  have hl := lv_entry (.ref mb :: [.int x1]) (n := 3) (Nat.le_of_ble_eq_true rfl)
  rw [lg_entry_eq]
  generalize (lg_sl (.ref mb :: [.int x1]) ++ List.replicate (3 - (lg_sl (.ref mb :: [.int x1])).length) Slot.unset).toArray = ls at hl ⊢
  have hl : lv_has ls 3 [(0, .ref mb), (1, .int x1)] := hl
  have hF : mF mb s.heap s.heap [] := mF.rf
  show mWw p l e 5 108 s m (Value.ref mb :: [.int x1]).toArray below meth c D mb q.2 (some (.int q.1)) s.heap [] (F0 m 0 ls [])
  have h : ((f_in (x1) ((0:Int32)) ((9999:Int32))).bind (fun v1 => if v1 = (0:Int32) then (f_setWidth_18 (x1) ((1:Int32)) σ) else (f_setWidth_18 (x1) ((0:Int32)) σ))) = some q := h
  refine lv_aload_n hx hb dX12_setWidth_0 rfl (lv_at hl 0 rfl) ?_
  refine lv_aload_n hx hb dX12_setWidth_1 rfl (lv_at hl 0 rfl) ?_
  refine lv_iload_n hx hb dX12_setWidth_2 rfl (lv_at hl 1 rfl) ?_
  refine lv_iconst (v := (0:Int32)) hx hb dX12_setWidth_3 (by decide) ?_
  refine lv_sipush (v := (9999:Int32)) hx hb dX12_setWidth_4 (by decide) ?_
  obtain ⟨v1, hv1, h⟩ := ob h
  refine cl_in X hP hv1 ⟨Nat.le_of_ble_eq_true rfl, Nat.le_of_ble_eq_true rfl⟩ hl.1 (Nat.le_of_ble_eq_true rfl) dX12_setWidth_7 ?_
  refine lv_if_eq (tgt := 17) hx hb dX12_setWidth_10 rfl (fun hc => ?_) (fun hc => ?_)
  · have h := ip hc h
    refine lv_iconst (v := (1:Int32)) hx hb dX12_setWidth_17 (by decide) ?_
    exact N_setWidth_18 X hP hF (lv_sub hl [0, 1] rfl) h
  · have h := ine hc h
    refine lv_iconst (v := (0:Int32)) hx hb dX12_setWidth_13 (by decide) ?_
    refine lv_goto (tgt := 18) hx hb dX12_setWidth_14 rfl ?_
    exact N_setWidth_18 X hP hF (lv_sub hl [0, 1] rfl) h
-- told(III)I
def f_told_75  (y0 : Int32) (σ : mS) : Option (Int32) := some y0
def f_told (x1 : Int32) (x2 : Int32) (x3 : Int32) (σ : mS) : Option (Int32) := if (12:Int32) ≤ x2 then ((rd σ 44 ((((3:Int32) * (((30:Int32) * x3) + x1)) + x2) - (12:Int32))).bind (fun v1 => if (0:Int32) ≤ v1 then ((rd σ 44 ((((3:Int32) * (((30:Int32) * x3) + x1)) + x2) - (12:Int32))).bind (fun v2 => (rd σ 45 ((((3:Int32) * (((30:Int32) * x3) + x1)) + x2) - (12:Int32))).bind (fun v3 => f_told_75 ((((100000:Int32) * v2) + v3)) σ))) else (f_told_75 (((-1000001):Int32)) σ))) else ((rd σ 43 (((12:Int32) * (((30:Int32) * x3) + x1)) + x2)).bind (fun v4 => f_told_75 (v4) σ))
set_option maxRecDepth 20000 in
set_option maxHeartbeats 4000000 in
theorem N_told_75 {p : Program} {l : Launch} {e : Env} {s : State} {m : MethodId} {args : Array Value} {below : List Frame} {meth : Method} {c : Code} {D : mD} {mb : Nat}   {y0 : Int32} {σ : mS} {ls : Array Slot} {r : Int32} (X : mX p s m args meth c cX12_told 5 (some .int) D) (hP : mP D mb σ s.heap)  (hl : lv_has ls 5 [(0, .ref mb)]) (h : f_told_75  y0 σ = some r) : mWr p l e 0 0 s m args below meth c (some (.int r)) (F0 m 75 ls [.int y0]) := by
  have hx := X.1
  have hb := X.2.1
  have hown := X.2.2.2.1
  have hts := X.2.2.2.2.1
  have h : (some y0) = some r := h
  obtain rfl := sj h
  exact m_ri X dX12_told_75
set_option maxRecDepth 20000 in
set_option maxHeartbeats 4000000 in
theorem K_told (l : Launch) (D : mD) (mb : Nat) (σ : mS) (x1 : Int32) (x2 : Int32) (x3 : Int32) {r : Int32} (h : f_told x1 x2 x3 σ = some r) : Met l yX12_told (Cond.code yX12_told cX12_told 5 (some .int) :: BG) (rM 0 0) (mPc D mb σ [.int x1, .int x2, .int x3]) (mQr (some (.int r))) 0 0 (fun _ => False) := by
  refine Met.ofW (cc := cX12_told) (maxL := 5) (ret := (some .int)) (by decide) rfl ?_
  intro p e s m args below meth c s₁ B hml hv
  obtain ⟨rfl, hP, hK⟩ := hv
  have X := mX_of B hml rfl hK
  have hx := X.1
  have hb := X.2.1
  have hown := X.2.2.2.1
  have hts := X.2.2.2.2.1
  have hl := lv_entry (.ref mb :: [.int x1, .int x2, .int x3]) (n := 5) (Nat.le_of_ble_eq_true rfl)
  rw [lg_entry_eq]
  generalize (lg_sl (.ref mb :: [.int x1, .int x2, .int x3]) ++ List.replicate (5 - (lg_sl (.ref mb :: [.int x1, .int x2, .int x3])).length) Slot.unset).toArray = ls at hl ⊢
  have hl : lv_has ls 5 [(0, .ref mb), (1, .int x1), (2, .int x2), (3, .int x3)] := hl
  show mWr p l e 0 0 s m (Value.ref mb :: [.int x1, .int x2, .int x3]).toArray below meth c (some (.int r)) (F0 m 0 ls [])
  have h : (if (12:Int32) ≤ x2 then ((rd σ 44 ((((3:Int32) * (((30:Int32) * x3) + x1)) + x2) - (12:Int32))).bind (fun v1 => if (0:Int32) ≤ v1 then ((rd σ 44 ((((3:Int32) * (((30:Int32) * x3) + x1)) + x2) - (12:Int32))).bind (fun v2 => (rd σ 45 ((((3:Int32) * (((30:Int32) * x3) + x1)) + x2) - (12:Int32))).bind (fun v3 => f_told_75 ((((100000:Int32) * v2) + v3)) σ))) else (f_told_75 (((-1000001):Int32)) σ))) else ((rd σ 43 (((12:Int32) * (((30:Int32) * x3) + x1)) + x2)).bind (fun v4 => f_told_75 (v4) σ))) = some r := h
  refine lv_iconst (v := (3:Int32)) hx hb dX12_told_0 (by decide) ?_
  refine lv_bipush (v := (30:Int32)) hx hb dX12_told_1 (by decide) ?_
  refine lv_iload_n hx hb dX12_told_3 rfl (lv_at hl 3 rfl) ?_
  refine lv_imul hx hb dX12_told_4 ?_
  refine lv_iload_n hx hb dX12_told_5 rfl (lv_at hl 1 rfl) ?_
  refine lv_iadd hx hb dX12_told_6 ?_
  refine lv_imul hx hb dX12_told_7 ?_
  refine lv_iload_n hx hb dX12_told_8 rfl (lv_at hl 2 rfl) ?_
  refine lv_iadd hx hb dX12_told_9 ?_
  refine lv_bipush (v := (12:Int32)) hx hb dX12_told_10 (by decide) ?_
  refine lv_isub hx hb dX12_told_12 ?_
  refine lv_istore hx hb dX12_told_13 hl (Nat.le_of_ble_eq_true rfl) rfl (fun ls (hl : lv_has ls 5 [(4, .int ((((3:Int32) * (((30:Int32) * x3) + x1)) + x2) - (12:Int32))), (0, .ref mb), (1, .int x1), (2, .int x2), (3, .int x3)]) => ?_)
  refine lv_iload_n hx hb dX12_told_15 rfl (lv_at hl 3 rfl) ?_
  refine lv_bipush (v := (12:Int32)) hx hb dX12_told_16 (by decide) ?_
  refine lv_icmp_ge (tgt := 40) hx hb dX12_told_18 rfl (fun hc => ?_) (fun hc => ?_)
  · have h := ip hc h
    refine lv_aload_n hx hb dX12_told_40 rfl (lv_at hl 1 rfl) ?_
    refine mg_vu X hP dX12_told_41 ?_
    refine lv_iload hx hb dX12_told_44 (lv_at hl 0 rfl) ?_
    obtain ⟨v1, hv1, h⟩ := ob h
    refine m_ald X hP hv1 dX12_told_46 ?_
    refine lv_if_ge (tgt := 56) hx hb dX12_told_47 rfl (fun hc => ?_) (fun hc => ?_)
    · have h := ip hc h
      refine lv_ldcw hx hb hown (hts _ w_2267) dX12_told_56 ?_
      refine lv_aload_n hx hb dX12_told_59 rfl (lv_at hl 1 rfl) ?_
      refine mg_vu X hP dX12_told_60 ?_
      refine lv_iload hx hb dX12_told_63 (lv_at hl 0 rfl) ?_
      obtain ⟨v2, hv2, h⟩ := ob h
      refine m_ald X hP hv2 dX12_told_65 ?_
      refine lv_imul hx hb dX12_told_66 ?_
      refine lv_aload_n hx hb dX12_told_67 rfl (lv_at hl 1 rfl) ?_
      refine mg_vn X hP dX12_told_68 ?_
      refine lv_iload hx hb dX12_told_71 (lv_at hl 0 rfl) ?_
      obtain ⟨v3, hv3, h⟩ := ob h
      refine m_ald X hP hv3 dX12_told_73 ?_
      refine lv_iadd hx hb dX12_told_74 ?_
      exact N_told_75 X hP (lv_sub hl [1] rfl) h
    · have h := ine hc h
      refine lv_ldcw hx hb hown (hts _ w_2297) dX12_told_50 ?_
      refine lv_goto (tgt := 75) hx hb dX12_told_53 rfl ?_
      exact N_told_75 X hP (lv_sub hl [1] rfl) h
  · have h := ine hc h
    refine lv_aload_n hx hb dX12_told_21 rfl (lv_at hl 1 rfl) ?_
    refine mg_val X hP dX12_told_22 ?_
    refine lv_bipush (v := (12:Int32)) hx hb dX12_told_25 (by decide) ?_
    refine lv_bipush (v := (30:Int32)) hx hb dX12_told_27 (by decide) ?_
    refine lv_iload_n hx hb dX12_told_29 rfl (lv_at hl 4 rfl) ?_
    refine lv_imul hx hb dX12_told_30 ?_
    refine lv_iload_n hx hb dX12_told_31 rfl (lv_at hl 2 rfl) ?_
    refine lv_iadd hx hb dX12_told_32 ?_
    refine lv_imul hx hb dX12_told_33 ?_
    refine lv_iload_n hx hb dX12_told_34 rfl (lv_at hl 3 rfl) ?_
    refine lv_iadd hx hb dX12_told_35 ?_
    obtain ⟨v4, hv4, h⟩ := ob h
    refine m_ald X hP hv4 dX12_told_36 ?_
    refine lv_goto (tgt := 75) hx hb dX12_told_37 rfl ?_
    exact N_told_75 X hP (lv_sub hl [1] rfl) h
theorem cl_told {p : Program} {l : Launch} {e : Env} {s : State} {m : MethodId} {args : Array Value} {below : List Frame} {meth : Method} {c : Code} {D : mD} {mb : Nat} {H : Heap} {locs : List Loc} {Q : State → Prop} {cc : ByteArray} {pc fR lR nL : Nat} {ls : Array Slot} {rest : List Value} {ret : Option FieldType} {σ : mS} (X : mX p s m args meth c cc nL ret D) (hP : mP D mb σ H) {x1 : Int32} {x2 : Int32} {x3 : Int32} {r : Int32} (h : f_told x1 x2 x3 σ = some r) (hr : 0 + 1 ≤ fR ∧ 8 + (5 + 11) + 0 ≤ lR) (hl : ls.size = nL) (hW : (rest.map fun v => v.category).sum ≤ 8) (hdg : decode cc pc = .ok (.invokevirtual 560, 3)) (kk : W p l e (rM fR lR) s m args below meth c H locs 0 0 Q (F0 m (pc + 3) ls (.int r :: rest))) : W p l e (rM fR lR) s m args below meth c H locs 0 0 Q (F0 m pc ls (.int x3 :: .int x2 :: .int x1 :: .ref mb :: rest)) := m_cr (m_run (n := 3) X (K_told l D mb σ x1 x2 x3 h) ⟨w_2293, w_2295, w_142, w_2296⟩ (hyX rfl (by decide +kernel)) rfl hr hP hl hW hdg rfl) kk
-- value(II)I
def f_value_41  (x1 : Int32) (x2 : Int32) (y1 : Int32) (σ : mS) : Option (Int32 × mS) := (f_holds (y1) σ).bind (fun v1 => if v1.1 = (0:Int32) then ((f_read  v1.2).bind (fun v2 => (f_told (x1) (x2) ((0:Int32)) v2).bind (fun v3 => some (v3, v2)))) else (some (((-1):Int32), v1.2)))
def f_value (x1 : Int32) (x2 : Int32) (σ : mS) : Option (Int32 × mS) := (f_isElement (x1) σ).bind (fun v1 => if v1 = (0:Int32) then (f_value_41 (x1) (x2) ((1:Int32)) σ) else ((f_in (x2) ((0:Int32)) ((14:Int32))).bind (fun v2 => if v2 = (0:Int32) then (f_value_41 (x1) (x2) ((2:Int32)) σ) else ((f_inDoc (x1) σ).bind (fun v3 => if v3 = (0:Int32) then (f_value_41 (x1) (x2) ((3:Int32)) σ) else (f_value_41 (x1) (x2) ((0:Int32)) σ))))))
set_option maxRecDepth 20000 in
set_option maxHeartbeats 4000000 in
theorem N_value_41 {p : Program} {l : Launch} {e : Env} {s : State} {m : MethodId} {args : Array Value} {below : List Frame} {meth : Method} {c : Code} {D : mD} {mb : Nat}   {x1 : Int32} {x2 : Int32} {y1 : Int32} {σ : mS} {H : Heap} {locs : List Loc} {ls : Array Slot} {q : Int32 × mS} (X : mX p s m args meth c cX12_value 3 (some .int) D) (hP : mP D mb σ H) (hF : mF mb s.heap H locs)  (hl : lv_has ls 3 [(0, .ref mb), (1, .int x1), (2, .int x2)]) (h : f_value_41  x1 x2 y1 σ = some q) : mWw p l e 16 408 s m args below meth c D mb q.2 (some (.int q.1)) H locs (F0 m 41 ls [.int y1, .ref mb]) := by
  have hx := X.1
  have hb := X.2.1
  have hown := X.2.2.2.1
  have hts := X.2.2.2.2.1
  have h : ((f_holds (y1) σ).bind (fun v1 => if v1.1 = (0:Int32) then ((f_read  v1.2).bind (fun v2 => (f_told (x1) (x2) ((0:Int32)) v2).bind (fun v3 => some (v3, v2)))) else (some (((-1):Int32), v1.2)))) = some q := h
  obtain ⟨v1, hv1, h⟩ := ob h
  refine cl_holds X hP hF hv1 ⟨Nat.le_of_ble_eq_true rfl, Nat.le_of_ble_eq_true rfl⟩ hl.1 (Nat.le_of_ble_eq_true rfl) dX12_value_41 (fun H locs hP hF => ?_)
  refine lv_if_eq (tgt := 49) hx hb dX12_value_44 rfl (fun hc => ?_) (fun hc => ?_)
  · have h := ip hc h
    refine lv_aload_n hx hb dX12_value_49 rfl (lv_at hl 0 rfl) ?_
    obtain ⟨v2, hv2, h⟩ := ob h
    refine cl_read X hP hF hv2 ⟨Nat.le_of_ble_eq_true rfl, Nat.le_of_ble_eq_true rfl⟩ hl.1 (Nat.le_of_ble_eq_true rfl) dX12_value_50 (fun H locs hP hF => ?_)
    refine lv_aload_n hx hb dX12_value_53 rfl (lv_at hl 0 rfl) ?_
    refine lv_iload_n hx hb dX12_value_54 rfl (lv_at hl 1 rfl) ?_
    refine lv_iload_n hx hb dX12_value_55 rfl (lv_at hl 2 rfl) ?_
    refine lv_iconst (v := (0:Int32)) hx hb dX12_value_56 (by decide) ?_
    obtain ⟨v3, hv3, h⟩ := ob h
    refine cl_told X hP hv3 ⟨Nat.le_of_ble_eq_true rfl, Nat.le_of_ble_eq_true rfl⟩ hl.1 (Nat.le_of_ble_eq_true rfl) dX12_value_57 ?_
    obtain rfl := sj h
    exact m_wi X hP hF dX12_value_60
  · have h := ine hc h
    refine lv_iconst (v := ((-1):Int32)) hx hb dX12_value_47 (by decide) ?_
    obtain rfl := sj h
    exact m_wi X hP hF dX12_value_48
set_option maxRecDepth 20000 in
set_option maxHeartbeats 4000000 in
theorem K_value (l : Launch) (D : mD) (mb : Nat) (σ : mS) (x1 : Int32) (x2 : Int32) {q : Int32 × mS} (h : f_value x1 x2 σ = some q) : Met l yX12_value (Cond.code yX12_value cX12_value 3 (some .int) :: BG) (rM 16 408) (mPc D mb σ [.int x1, .int x2]) (mQw D mb q.2 (some (.int q.1))) 0 0 (mReg mb) := by
  refine Met.ofW (cc := cX12_value) (maxL := 3) (ret := (some .int)) (by decide) rfl ?_
  intro p e s m args below meth c s₁ B hml hv
  obtain ⟨rfl, hP, hK⟩ := hv
  have X := mX_of B hml rfl hK
  have hx := X.1
  have hb := X.2.1
  have hown := X.2.2.2.1
  have hts := X.2.2.2.2.1
  have hl := lv_entry (.ref mb :: [.int x1, .int x2]) (n := 3) (Nat.le_of_ble_eq_true rfl)
  rw [lg_entry_eq]
  generalize (lg_sl (.ref mb :: [.int x1, .int x2]) ++ List.replicate (3 - (lg_sl (.ref mb :: [.int x1, .int x2])).length) Slot.unset).toArray = ls at hl ⊢
  have hl : lv_has ls 3 [(0, .ref mb), (1, .int x1), (2, .int x2)] := hl
  have hF : mF mb s.heap s.heap [] := mF.rf
  show mWw p l e 16 408 s m (Value.ref mb :: [.int x1, .int x2]).toArray below meth c D mb q.2 (some (.int q.1)) s.heap [] (F0 m 0 ls [])
  have h : ((f_isElement (x1) σ).bind (fun v1 => if v1 = (0:Int32) then (f_value_41 (x1) (x2) ((1:Int32)) σ) else ((f_in (x2) ((0:Int32)) ((14:Int32))).bind (fun v2 => if v2 = (0:Int32) then (f_value_41 (x1) (x2) ((2:Int32)) σ) else ((f_inDoc (x1) σ).bind (fun v3 => if v3 = (0:Int32) then (f_value_41 (x1) (x2) ((3:Int32)) σ) else (f_value_41 (x1) (x2) ((0:Int32)) σ))))))) = some q := h
  refine lv_aload_n hx hb dX12_value_0 rfl (lv_at hl 0 rfl) ?_
  refine lv_aload_n hx hb dX12_value_1 rfl (lv_at hl 0 rfl) ?_
  refine lv_iload_n hx hb dX12_value_2 rfl (lv_at hl 1 rfl) ?_
  obtain ⟨v1, hv1, h⟩ := ob h
  refine cl_isElement X hP hv1 ⟨Nat.le_of_ble_eq_true rfl, Nat.le_of_ble_eq_true rfl⟩ hl.1 (Nat.le_of_ble_eq_true rfl) dX12_value_3 ?_
  refine lv_if_ne (tgt := 13) hx hb dX12_value_6 rfl (fun hc => ?_) (fun hc => ?_)
  · have h := ine hc h
    refine lv_aload_n hx hb dX12_value_13 rfl (lv_at hl 0 rfl) ?_
    refine lv_iload_n hx hb dX12_value_14 rfl (lv_at hl 2 rfl) ?_
    refine lv_iconst (v := (0:Int32)) hx hb dX12_value_15 (by decide) ?_
    refine lv_bipush (v := (14:Int32)) hx hb dX12_value_16 (by decide) ?_
    obtain ⟨v2, hv2, h⟩ := ob h
    refine cl_in X hP hv2 ⟨Nat.le_of_ble_eq_true rfl, Nat.le_of_ble_eq_true rfl⟩ hl.1 (Nat.le_of_ble_eq_true rfl) dX12_value_18 ?_
    refine lv_if_ne (tgt := 28) hx hb dX12_value_21 rfl (fun hc => ?_) (fun hc => ?_)
    · have h := ine hc h
      refine lv_aload_n hx hb dX12_value_28 rfl (lv_at hl 0 rfl) ?_
      refine lv_iload_n hx hb dX12_value_29 rfl (lv_at hl 1 rfl) ?_
      obtain ⟨v3, hv3, h⟩ := ob h
      refine cl_inDoc X hP hv3 ⟨Nat.le_of_ble_eq_true rfl, Nat.le_of_ble_eq_true rfl⟩ hl.1 (Nat.le_of_ble_eq_true rfl) dX12_value_30 ?_
      refine lv_if_ne (tgt := 40) hx hb dX12_value_33 rfl (fun hc => ?_) (fun hc => ?_)
      · have h := ine hc h
        refine lv_iconst (v := (0:Int32)) hx hb dX12_value_40 (by decide) ?_
        exact N_value_41 X hP hF (lv_sub hl [0, 1, 2] rfl) h
      · have h := ip hc h
        refine lv_iconst (v := (3:Int32)) hx hb dX12_value_36 (by decide) ?_
        refine lv_goto (tgt := 41) hx hb dX12_value_37 rfl ?_
        exact N_value_41 X hP hF (lv_sub hl [0, 1, 2] rfl) h
    · have h := ip hc h
      refine lv_iconst (v := (2:Int32)) hx hb dX12_value_24 (by decide) ?_
      refine lv_goto (tgt := 41) hx hb dX12_value_25 rfl ?_
      exact N_value_41 X hP hF (lv_sub hl [0, 1, 2] rfl) h
  · have h := ip hc h
    refine lv_iconst (v := (1:Int32)) hx hb dX12_value_9 (by decide) ?_
    refine lv_goto (tgt := 41) hx hb dX12_value_10 rfl ?_
    exact N_value_41 X hP hF (lv_sub hl [0, 1, 2] rfl) h
-- size(I)I
def f_size_26  (x1 : Int32) (y1 : Int32) (σ : mS) : Option (Int32 × mS) := (f_holds (y1) σ).bind (fun v1 => if v1.1 = (0:Int32) then ((f_read  v1.2).bind (fun v2 => (rd v2 46 x1).bind (fun v3 => some (v3, v2)))) else (some (((-1):Int32), v1.2)))
def f_size (x1 : Int32) (σ : mS) : Option (Int32 × mS) := (f_isElement (x1) σ).bind (fun v1 => if v1 = (0:Int32) then (f_size_26 (x1) ((1:Int32)) σ) else ((f_inDoc (x1) σ).bind (fun v2 => if v2 = (0:Int32) then (f_size_26 (x1) ((2:Int32)) σ) else (f_size_26 (x1) ((0:Int32)) σ))))
set_option maxRecDepth 20000 in
set_option maxHeartbeats 4000000 in
theorem N_size_26 {p : Program} {l : Launch} {e : Env} {s : State} {m : MethodId} {args : Array Value} {below : List Frame} {meth : Method} {c : Code} {D : mD} {mb : Nat}   {x1 : Int32} {y1 : Int32} {σ : mS} {H : Heap} {locs : List Loc} {ls : Array Slot} {q : Int32 × mS} (X : mX p s m args meth c cX12_size 2 (some .int) D) (hP : mP D mb σ H) (hF : mF mb s.heap H locs)  (hl : lv_has ls 2 [(0, .ref mb), (1, .int x1)]) (h : f_size_26  x1 y1 σ = some q) : mWw p l e 16 408 s m args below meth c D mb q.2 (some (.int q.1)) H locs (F0 m 26 ls [.int y1, .ref mb]) := by
  have hx := X.1
  have hb := X.2.1
  have hown := X.2.2.2.1
  have hts := X.2.2.2.2.1
  have h : ((f_holds (y1) σ).bind (fun v1 => if v1.1 = (0:Int32) then ((f_read  v1.2).bind (fun v2 => (rd v2 46 x1).bind (fun v3 => some (v3, v2)))) else (some (((-1):Int32), v1.2)))) = some q := h
  obtain ⟨v1, hv1, h⟩ := ob h
  refine cl_holds X hP hF hv1 ⟨Nat.le_of_ble_eq_true rfl, Nat.le_of_ble_eq_true rfl⟩ hl.1 (Nat.le_of_ble_eq_true rfl) dX12_size_26 (fun H locs hP hF => ?_)
  refine lv_if_eq (tgt := 34) hx hb dX12_size_29 rfl (fun hc => ?_) (fun hc => ?_)
  · have h := ip hc h
    refine lv_aload_n hx hb dX12_size_34 rfl (lv_at hl 0 rfl) ?_
    obtain ⟨v2, hv2, h⟩ := ob h
    refine cl_read X hP hF hv2 ⟨Nat.le_of_ble_eq_true rfl, Nat.le_of_ble_eq_true rfl⟩ hl.1 (Nat.le_of_ble_eq_true rfl) dX12_size_35 (fun H locs hP hF => ?_)
    refine lv_aload_n hx hb dX12_size_38 rfl (lv_at hl 0 rfl) ?_
    refine mg_sz X hP dX12_size_39 ?_
    refine lv_iload_n hx hb dX12_size_42 rfl (lv_at hl 1 rfl) ?_
    obtain ⟨v3, hv3, h⟩ := ob h
    refine m_ald X hP hv3 dX12_size_43 ?_
    obtain rfl := sj h
    exact m_wi X hP hF dX12_size_44
  · have h := ine hc h
    refine lv_iconst (v := ((-1):Int32)) hx hb dX12_size_32 (by decide) ?_
    obtain rfl := sj h
    exact m_wi X hP hF dX12_size_33
set_option maxRecDepth 20000 in
set_option maxHeartbeats 4000000 in
theorem K_size (l : Launch) (D : mD) (mb : Nat) (σ : mS) (x1 : Int32) {q : Int32 × mS} (h : f_size x1 σ = some q) : Met l yX12_size (Cond.code yX12_size cX12_size 2 (some .int) :: BG) (rM 16 408) (mPc D mb σ [.int x1]) (mQw D mb q.2 (some (.int q.1))) 0 0 (mReg mb) := by
  refine Met.ofW (cc := cX12_size) (maxL := 2) (ret := (some .int)) (by decide) rfl ?_
  intro p e s m args below meth c s₁ B hml hv
  obtain ⟨rfl, hP, hK⟩ := hv
  have X := mX_of B hml rfl hK
  have hx := X.1
  have hb := X.2.1
  have hown := X.2.2.2.1
  have hts := X.2.2.2.2.1
  have hl := lv_entry (.ref mb :: [.int x1]) (n := 2) (Nat.le_of_ble_eq_true rfl)
  rw [lg_entry_eq]
  generalize (lg_sl (.ref mb :: [.int x1]) ++ List.replicate (2 - (lg_sl (.ref mb :: [.int x1])).length) Slot.unset).toArray = ls at hl ⊢
  have hl : lv_has ls 2 [(0, .ref mb), (1, .int x1)] := hl
  have hF : mF mb s.heap s.heap [] := mF.rf
  show mWw p l e 16 408 s m (Value.ref mb :: [.int x1]).toArray below meth c D mb q.2 (some (.int q.1)) s.heap [] (F0 m 0 ls [])
  have h : ((f_isElement (x1) σ).bind (fun v1 => if v1 = (0:Int32) then (f_size_26 (x1) ((1:Int32)) σ) else ((f_inDoc (x1) σ).bind (fun v2 => if v2 = (0:Int32) then (f_size_26 (x1) ((2:Int32)) σ) else (f_size_26 (x1) ((0:Int32)) σ))))) = some q := h
  refine lv_aload_n hx hb dX12_size_0 rfl (lv_at hl 0 rfl) ?_
  refine lv_aload_n hx hb dX12_size_1 rfl (lv_at hl 0 rfl) ?_
  refine lv_iload_n hx hb dX12_size_2 rfl (lv_at hl 1 rfl) ?_
  obtain ⟨v1, hv1, h⟩ := ob h
  refine cl_isElement X hP hv1 ⟨Nat.le_of_ble_eq_true rfl, Nat.le_of_ble_eq_true rfl⟩ hl.1 (Nat.le_of_ble_eq_true rfl) dX12_size_3 ?_
  refine lv_if_ne (tgt := 13) hx hb dX12_size_6 rfl (fun hc => ?_) (fun hc => ?_)
  · have h := ine hc h
    refine lv_aload_n hx hb dX12_size_13 rfl (lv_at hl 0 rfl) ?_
    refine lv_iload_n hx hb dX12_size_14 rfl (lv_at hl 1 rfl) ?_
    obtain ⟨v2, hv2, h⟩ := ob h
    refine cl_inDoc X hP hv2 ⟨Nat.le_of_ble_eq_true rfl, Nat.le_of_ble_eq_true rfl⟩ hl.1 (Nat.le_of_ble_eq_true rfl) dX12_size_15 ?_
    refine lv_if_ne (tgt := 25) hx hb dX12_size_18 rfl (fun hc => ?_) (fun hc => ?_)
    · have h := ine hc h
      refine lv_iconst (v := (0:Int32)) hx hb dX12_size_25 (by decide) ?_
      exact N_size_26 X hP hF (lv_sub hl [0, 1] rfl) h
    · have h := ip hc h
      refine lv_iconst (v := (2:Int32)) hx hb dX12_size_21 (by decide) ?_
      refine lv_goto (tgt := 26) hx hb dX12_size_22 rfl ?_
      exact N_size_26 X hP hF (lv_sub hl [0, 1] rfl) h
  · have h := ip hc h
    refine lv_iconst (v := (1:Int32)) hx hb dX12_size_9 (by decide) ?_
    refine lv_goto (tgt := 26) hx hb dX12_size_10 rfl ?_
    exact N_size_26 X hP hF (lv_sub hl [0, 1] rfl) h
-- seen(II)I
def f_seen_40  (x1 : Int32) (x2 : Int32) (y1 : Int32) (σ : mS) : Option (Int32 × mS) := (f_holds (y1) σ).bind (fun v1 => if v1.1 = (0:Int32) then ((f_read  v1.2).bind (fun v2 => (f_seenOf (x1) (x2) v2).bind (fun v3 => some (v3, v2)))) else (some (((-1):Int32), v1.2)))
def f_seen (x1 : Int32) (x2 : Int32) (σ : mS) : Option (Int32 × mS) := (f_isElement (x1) σ).bind (fun v1 => if v1 = (0:Int32) then (f_seen_40 (x1) (x2) ((1:Int32)) σ) else ((f_in (x2) ((0:Int32)) ((4:Int32))).bind (fun v2 => if v2 = (0:Int32) then (f_seen_40 (x1) (x2) ((2:Int32)) σ) else ((f_inDoc (x1) σ).bind (fun v3 => if v3 = (0:Int32) then (f_seen_40 (x1) (x2) ((3:Int32)) σ) else (f_seen_40 (x1) (x2) ((0:Int32)) σ))))))
set_option maxRecDepth 20000 in
set_option maxHeartbeats 4000000 in
theorem N_seen_40 {p : Program} {l : Launch} {e : Env} {s : State} {m : MethodId} {args : Array Value} {below : List Frame} {meth : Method} {c : Code} {D : mD} {mb : Nat}   {x1 : Int32} {x2 : Int32} {y1 : Int32} {σ : mS} {H : Heap} {locs : List Loc} {ls : Array Slot} {q : Int32 × mS} (X : mX p s m args meth c cX12_seen 3 (some .int) D) (hP : mP D mb σ H) (hF : mF mb s.heap H locs)  (hl : lv_has ls 3 [(0, .ref mb), (1, .int x1), (2, .int x2)]) (h : f_seen_40  x1 x2 y1 σ = some q) : mWw p l e 16 408 s m args below meth c D mb q.2 (some (.int q.1)) H locs (F0 m 40 ls [.int y1, .ref mb]) := by
  have hx := X.1
  have hb := X.2.1
  have hown := X.2.2.2.1
  have hts := X.2.2.2.2.1
  have h : ((f_holds (y1) σ).bind (fun v1 => if v1.1 = (0:Int32) then ((f_read  v1.2).bind (fun v2 => (f_seenOf (x1) (x2) v2).bind (fun v3 => some (v3, v2)))) else (some (((-1):Int32), v1.2)))) = some q := h
  obtain ⟨v1, hv1, h⟩ := ob h
  refine cl_holds X hP hF hv1 ⟨Nat.le_of_ble_eq_true rfl, Nat.le_of_ble_eq_true rfl⟩ hl.1 (Nat.le_of_ble_eq_true rfl) dX12_seen_40 (fun H locs hP hF => ?_)
  refine lv_if_eq (tgt := 48) hx hb dX12_seen_43 rfl (fun hc => ?_) (fun hc => ?_)
  · have h := ip hc h
    refine lv_aload_n hx hb dX12_seen_48 rfl (lv_at hl 0 rfl) ?_
    obtain ⟨v2, hv2, h⟩ := ob h
    refine cl_read X hP hF hv2 ⟨Nat.le_of_ble_eq_true rfl, Nat.le_of_ble_eq_true rfl⟩ hl.1 (Nat.le_of_ble_eq_true rfl) dX12_seen_49 (fun H locs hP hF => ?_)
    refine lv_aload_n hx hb dX12_seen_52 rfl (lv_at hl 0 rfl) ?_
    refine lv_iload_n hx hb dX12_seen_53 rfl (lv_at hl 1 rfl) ?_
    refine lv_iload_n hx hb dX12_seen_54 rfl (lv_at hl 2 rfl) ?_
    obtain ⟨v3, hv3, h⟩ := ob h
    refine cl_seenOf X hP hv3 ⟨Nat.le_of_ble_eq_true rfl, Nat.le_of_ble_eq_true rfl⟩ hl.1 (Nat.le_of_ble_eq_true rfl) dX12_seen_55 ?_
    obtain rfl := sj h
    exact m_wi X hP hF dX12_seen_58
  · have h := ine hc h
    refine lv_iconst (v := ((-1):Int32)) hx hb dX12_seen_46 (by decide) ?_
    obtain rfl := sj h
    exact m_wi X hP hF dX12_seen_47
set_option maxRecDepth 20000 in
set_option maxHeartbeats 4000000 in
theorem K_seen (l : Launch) (D : mD) (mb : Nat) (σ : mS) (x1 : Int32) (x2 : Int32) {q : Int32 × mS} (h : f_seen x1 x2 σ = some q) : Met l yX12_seen (Cond.code yX12_seen cX12_seen 3 (some .int) :: BG) (rM 16 408) (mPc D mb σ [.int x1, .int x2]) (mQw D mb q.2 (some (.int q.1))) 0 0 (mReg mb) := by
  refine Met.ofW (cc := cX12_seen) (maxL := 3) (ret := (some .int)) (by decide) rfl ?_
  intro p e s m args below meth c s₁ B hml hv
  obtain ⟨rfl, hP, hK⟩ := hv
  have X := mX_of B hml rfl hK
  have hx := X.1
  have hb := X.2.1
  have hown := X.2.2.2.1
  have hts := X.2.2.2.2.1
  have hl := lv_entry (.ref mb :: [.int x1, .int x2]) (n := 3) (Nat.le_of_ble_eq_true rfl)
  rw [lg_entry_eq]
  generalize (lg_sl (.ref mb :: [.int x1, .int x2]) ++ List.replicate (3 - (lg_sl (.ref mb :: [.int x1, .int x2])).length) Slot.unset).toArray = ls at hl ⊢
  have hl : lv_has ls 3 [(0, .ref mb), (1, .int x1), (2, .int x2)] := hl
  have hF : mF mb s.heap s.heap [] := mF.rf
  show mWw p l e 16 408 s m (Value.ref mb :: [.int x1, .int x2]).toArray below meth c D mb q.2 (some (.int q.1)) s.heap [] (F0 m 0 ls [])
  have h : ((f_isElement (x1) σ).bind (fun v1 => if v1 = (0:Int32) then (f_seen_40 (x1) (x2) ((1:Int32)) σ) else ((f_in (x2) ((0:Int32)) ((4:Int32))).bind (fun v2 => if v2 = (0:Int32) then (f_seen_40 (x1) (x2) ((2:Int32)) σ) else ((f_inDoc (x1) σ).bind (fun v3 => if v3 = (0:Int32) then (f_seen_40 (x1) (x2) ((3:Int32)) σ) else (f_seen_40 (x1) (x2) ((0:Int32)) σ))))))) = some q := h
  refine lv_aload_n hx hb dX12_seen_0 rfl (lv_at hl 0 rfl) ?_
  refine lv_aload_n hx hb dX12_seen_1 rfl (lv_at hl 0 rfl) ?_
  refine lv_iload_n hx hb dX12_seen_2 rfl (lv_at hl 1 rfl) ?_
  obtain ⟨v1, hv1, h⟩ := ob h
  refine cl_isElement X hP hv1 ⟨Nat.le_of_ble_eq_true rfl, Nat.le_of_ble_eq_true rfl⟩ hl.1 (Nat.le_of_ble_eq_true rfl) dX12_seen_3 ?_
  refine lv_if_ne (tgt := 13) hx hb dX12_seen_6 rfl (fun hc => ?_) (fun hc => ?_)
  · have h := ine hc h
    refine lv_aload_n hx hb dX12_seen_13 rfl (lv_at hl 0 rfl) ?_
    refine lv_iload_n hx hb dX12_seen_14 rfl (lv_at hl 2 rfl) ?_
    refine lv_iconst (v := (0:Int32)) hx hb dX12_seen_15 (by decide) ?_
    refine lv_iconst (v := (4:Int32)) hx hb dX12_seen_16 (by decide) ?_
    obtain ⟨v2, hv2, h⟩ := ob h
    refine cl_in X hP hv2 ⟨Nat.le_of_ble_eq_true rfl, Nat.le_of_ble_eq_true rfl⟩ hl.1 (Nat.le_of_ble_eq_true rfl) dX12_seen_17 ?_
    refine lv_if_ne (tgt := 27) hx hb dX12_seen_20 rfl (fun hc => ?_) (fun hc => ?_)
    · have h := ine hc h
      refine lv_aload_n hx hb dX12_seen_27 rfl (lv_at hl 0 rfl) ?_
      refine lv_iload_n hx hb dX12_seen_28 rfl (lv_at hl 1 rfl) ?_
      obtain ⟨v3, hv3, h⟩ := ob h
      refine cl_inDoc X hP hv3 ⟨Nat.le_of_ble_eq_true rfl, Nat.le_of_ble_eq_true rfl⟩ hl.1 (Nat.le_of_ble_eq_true rfl) dX12_seen_29 ?_
      refine lv_if_ne (tgt := 39) hx hb dX12_seen_32 rfl (fun hc => ?_) (fun hc => ?_)
      · have h := ine hc h
        refine lv_iconst (v := (0:Int32)) hx hb dX12_seen_39 (by decide) ?_
        exact N_seen_40 X hP hF (lv_sub hl [0, 1, 2] rfl) h
      · have h := ip hc h
        refine lv_iconst (v := (3:Int32)) hx hb dX12_seen_35 (by decide) ?_
        refine lv_goto (tgt := 40) hx hb dX12_seen_36 rfl ?_
        exact N_seen_40 X hP hF (lv_sub hl [0, 1, 2] rfl) h
    · have h := ip hc h
      refine lv_iconst (v := (2:Int32)) hx hb dX12_seen_23 (by decide) ?_
      refine lv_goto (tgt := 40) hx hb dX12_seen_24 rfl ?_
      exact N_seen_40 X hP hF (lv_sub hl [0, 1, 2] rfl) h
  · have h := ip hc h
    refine lv_iconst (v := (1:Int32)) hx hb dX12_seen_9 (by decide) ?_
    refine lv_goto (tgt := 40) hx hb dX12_seen_10 rfl ?_
    exact N_seen_40 X hP hF (lv_sub hl [0, 1, 2] rfl) h
-- made(I)I
def f_made_214 (k48 : Int32 → Int32 → Int32 → Int32 → Int32 → mS → Option (Int32 × mS)) (x1 : Int32) (x2 : Int32) (x3 : Int32) (x4 : Int32) (x5 : Int32) (σ : mS) : Option (Int32 × mS) := k48 (x1) (x2) (x3) (x4) ((x5 + (1:Int32))) σ
def f_made_212 (k48 : Int32 → Int32 → Int32 → Int32 → Int32 → mS → Option (Int32 × mS)) (x1 : Int32) (x2 : Int32) (x3 : Int32) (x5 : Int32) (y0 : Int32) (σ : mS) : Option (Int32 × mS) := f_made_214 k48 (x1) (x2) (x3) (y0) (x5) σ
def f_made_210 (k48 : Int32 → Int32 → Int32 → Int32 → Int32 → mS → Option (Int32 × mS)) (x1 : Int32) (x2 : Int32) (x3 : Int32) (x4 : Int32) (x5 : Int32) (σ : mS) : Option (Int32 × mS) := f_made_212 k48 (x1) (x2) (x3) (x5) (x4) σ
def f_made_167 (k48 : Int32 → Int32 → Int32 → Int32 → Int32 → mS → Option (Int32 × mS)) (x1 : Int32) (x3 : Int32) (x4 : Int32) (x5 : Int32) (x6 : Int32) (y0 : Int32) (σ : mS) : Option (Int32 × mS) := (rd σ 43 (((12:Int32) * x6) + (7:Int32))).bind (fun v1 => if x6 = x1 then ((rd σ 43 (((12:Int32) * x6) + (9:Int32))).bind (fun v2 => if v2 ≤ (0:Int32) then (f_made_210 k48 (x1) ((y0 + v1)) (x3) (x4) (x5) σ) else (f_made_212 k48 (x1) ((y0 + v1)) (x3) (x5) ((y0 + v1)) σ))) else (f_made_210 k48 (x1) ((y0 + v1)) (x3) (x4) (x5) σ))
def f_made_127 (k48 : Int32 → Int32 → Int32 → Int32 → Int32 → mS → Option (Int32 × mS)) (x1 : Int32) (x2 : Int32) (x4 : Int32) (x5 : Int32) (x6 : Int32) (x7 : Int32) (y0 : Int32) (y1 : Int32) (σ : mS) : Option (Int32 × mS) := if x7 = (0:Int32) then ((rd σ 43 (((12:Int32) * x6) + (8:Int32))).bind (fun v1 => if v1 < (0:Int32) then (f_made_167 k48 (x1) ((y0 ||| y1)) (x4) (x5) (x6) (x2) σ) else ((rd σ 43 (((12:Int32) * x6) + (8:Int32))).bind (fun v2 => f_made_167 k48 (x1) ((y0 ||| y1)) (x4) (x5) (x6) (v2) σ)))) else (f_made_214 k48 (x1) (x2) ((y0 ||| y1)) (x4) (x5) σ)
def f_made_111 (k48 : Int32 → Int32 → Int32 → Int32 → Int32 → mS → Option (Int32 × mS)) (x1 : Int32) (x2 : Int32) (x3 : Int32) (x4 : Int32) (x5 : Int32) (x6 : Int32) (y0 : Int32) (σ : mS) : Option (Int32 × mS) := if y0 = (0:Int32) then (f_made_127 k48 (x1) (x2) (x4) (x5) (x6) (y0) (x3) ((0:Int32)) σ) else (f_made_127 k48 (x1) (x2) (x4) (x5) (x6) (y0) (x3) (((1:Int32) <<< (x6 &&& 31))) σ)
def f_made_106 (k48 : Int32 → Int32 → Int32 → Int32 → Int32 → mS → Option (Int32 × mS)) (x1 : Int32) (x2 : Int32) (x3 : Int32) (x4 : Int32) (x5 : Int32) (x6 : Int32) (σ : mS) : Option (Int32 × mS) := f_made_111 k48 (x1) (x2) (x3) (x4) (x5) (x6) ((1:Int32)) σ
def f_made_110 (k48 : Int32 → Int32 → Int32 → Int32 → Int32 → mS → Option (Int32 × mS)) (x1 : Int32) (x2 : Int32) (x3 : Int32) (x4 : Int32) (x5 : Int32) (x6 : Int32) (σ : mS) : Option (Int32 × mS) := f_made_111 k48 (x1) (x2) (x3) (x4) (x5) (x6) ((0:Int32)) σ
def f_made_48  : Nat → Int32 → Int32 → Int32 → Int32 → Int32 → mS → Option (Int32 × mS)
  | 0, _, _, _, _, _, _ => none
  | n + 1, x1, x2, x3, x4, x5, σ => if (σ.2 76) ≤ x5 then (some (x4, σ)) else ((rd σ 75 x5).bind (fun v1 => (rd σ 43 (((12:Int32) * v1) + (5:Int32))).bind (fun v2 => if v2 = (0:Int32) then (f_made_106 (f_made_48 n) (x1) (x2) (x3) (x4) (x5) (v1) σ) else ((rd σ 77 v1).bind (fun v3 => if v3 < (0:Int32) then (f_made_110 (f_made_48 n) (x1) (x2) (x3) (x4) (x5) (v1) σ) else ((rd σ 77 v1).bind (fun v4 => (f_bit (x3) (v4)).bind (fun v5 => if v5 = (0:Int32) then (f_made_110 (f_made_48 n) (x1) (x2) (x3) (x4) (x5) (v1) σ) else (f_made_106 (f_made_48 n) (x1) (x2) (x3) (x4) (x5) (v1) σ)))))))))
def f_made_26  (x1 : Int32) (y1 : Int32) (σ : mS) : Option (Int32 × mS) := (f_holds (y1) σ).bind (fun v1 => if v1.1 = (0:Int32) then ((f_read  v1.2).bind (fun v2 => f_made_48 4000 (x1) ((0:Int32)) ((0:Int32)) (((-1):Int32)) ((0:Int32)) v2)) else (some (((-1):Int32), v1.2)))
def f_made (x1 : Int32) (σ : mS) : Option (Int32 × mS) := (f_isElement (x1) σ).bind (fun v1 => if v1 = (0:Int32) then (f_made_26 (x1) ((1:Int32)) σ) else ((f_inDoc (x1) σ).bind (fun v2 => if v2 = (0:Int32) then (f_made_26 (x1) ((2:Int32)) σ) else (f_made_26 (x1) ((0:Int32)) σ))))
set_option maxRecDepth 20000 in
set_option maxHeartbeats 4000000 in
theorem N_made_214 {p : Program} {l : Launch} {e : Env} {s : State} {m : MethodId} {args : Array Value} {below : List Frame} {meth : Method} {c : Code} {D : mD} {mb : Nat} {k48 : Int32 → Int32 → Int32 → Int32 → Int32 → mS → Option (Int32 × mS)}  {x1 : Int32} {x2 : Int32} {x3 : Int32} {x4 : Int32} {x5 : Int32} {σ : mS} {H : Heap} {locs : List Loc} {ls : Array Slot} {q : Int32 × mS} (X : mX p s m args meth c cX12_made 8 (some .int) D) (hP : mP D mb σ H) (hF : mF mb s.heap H locs) (hk48 : ∀ {x1 : Int32} {x2 : Int32} {x3 : Int32} {x4 : Int32} {x5 : Int32} {σ : mS} {H : Heap} {locs : List Loc} {ls : Array Slot}, mP D mb σ H → mF mb s.heap H locs → lv_has ls 8 [(0, .ref mb), (1, .int x1), (2, .int x2), (3, .int x3), (4, .int x4), (5, .int x5)] → k48 x1 x2 x3 x4 x5 σ = some q → mWw p l e 16 408 s m args below meth c D mb q.2 (some (.int q.1)) H locs (F0 m 48 ls [])) (hl : lv_has ls 8 [(0, .ref mb), (1, .int x1), (2, .int x2), (3, .int x3), (4, .int x4), (5, .int x5)]) (h : f_made_214 k48 x1 x2 x3 x4 x5 σ = some q) : mWw p l e 16 408 s m args below meth c D mb q.2 (some (.int q.1)) H locs (F0 m 214 ls []) := by
  have hx := X.1
  have hb := X.2.1
  have hown := X.2.2.2.1
  have hts := X.2.2.2.2.1
  have h : (k48 (x1) (x2) (x3) (x4) ((x5 + (1:Int32))) σ) = some q := h
  refine lv_iinc (v := (x5 + (1:Int32))) hx hb dX12_made_214 hl (k := 5) rfl rfl (Nat.le_of_ble_eq_true rfl) rfl (fun ls (hl : lv_has ls 8 [(5, .int (x5 + (1:Int32))), (0, .ref mb), (1, .int x1), (2, .int x2), (3, .int x3), (4, .int x4)]) => ?_)
  refine lv_goto (tgt := 48) hx hb dX12_made_217 rfl ?_
  exact hk48 hP hF (lv_sub hl [1, 2, 3, 4, 5, 0] rfl) h
set_option maxRecDepth 20000 in
set_option maxHeartbeats 4000000 in
theorem N_made_212 {p : Program} {l : Launch} {e : Env} {s : State} {m : MethodId} {args : Array Value} {below : List Frame} {meth : Method} {c : Code} {D : mD} {mb : Nat} {k48 : Int32 → Int32 → Int32 → Int32 → Int32 → mS → Option (Int32 × mS)}  {x1 : Int32} {x2 : Int32} {x3 : Int32} {x5 : Int32} {y0 : Int32} {σ : mS} {H : Heap} {locs : List Loc} {ls : Array Slot} {q : Int32 × mS} (X : mX p s m args meth c cX12_made 8 (some .int) D) (hP : mP D mb σ H) (hF : mF mb s.heap H locs) (hk48 : ∀ {x1 : Int32} {x2 : Int32} {x3 : Int32} {x4 : Int32} {x5 : Int32} {σ : mS} {H : Heap} {locs : List Loc} {ls : Array Slot}, mP D mb σ H → mF mb s.heap H locs → lv_has ls 8 [(0, .ref mb), (1, .int x1), (2, .int x2), (3, .int x3), (4, .int x4), (5, .int x5)] → k48 x1 x2 x3 x4 x5 σ = some q → mWw p l e 16 408 s m args below meth c D mb q.2 (some (.int q.1)) H locs (F0 m 48 ls [])) (hl : lv_has ls 8 [(0, .ref mb), (1, .int x1), (2, .int x2), (3, .int x3), (5, .int x5)]) (h : f_made_212 k48 x1 x2 x3 x5 y0 σ = some q) : mWw p l e 16 408 s m args below meth c D mb q.2 (some (.int q.1)) H locs (F0 m 212 ls [.int y0]) := by
  have hx := X.1
  have hb := X.2.1
  have hown := X.2.2.2.1
  have hts := X.2.2.2.2.1
  have h : (f_made_214 k48 (x1) (x2) (x3) (y0) (x5) σ) = some q := h
  refine lv_istore hx hb dX12_made_212 hl (Nat.le_of_ble_eq_true rfl) rfl (fun ls (hl : lv_has ls 8 [(4, .int y0), (0, .ref mb), (1, .int x1), (2, .int x2), (3, .int x3), (5, .int x5)]) => ?_)
  exact N_made_214 X hP hF hk48 (lv_sub hl [1, 2, 3, 4, 0, 5] rfl) h
set_option maxRecDepth 20000 in
set_option maxHeartbeats 4000000 in
theorem N_made_210 {p : Program} {l : Launch} {e : Env} {s : State} {m : MethodId} {args : Array Value} {below : List Frame} {meth : Method} {c : Code} {D : mD} {mb : Nat} {k48 : Int32 → Int32 → Int32 → Int32 → Int32 → mS → Option (Int32 × mS)}  {x1 : Int32} {x2 : Int32} {x3 : Int32} {x4 : Int32} {x5 : Int32} {σ : mS} {H : Heap} {locs : List Loc} {ls : Array Slot} {q : Int32 × mS} (X : mX p s m args meth c cX12_made 8 (some .int) D) (hP : mP D mb σ H) (hF : mF mb s.heap H locs) (hk48 : ∀ {x1 : Int32} {x2 : Int32} {x3 : Int32} {x4 : Int32} {x5 : Int32} {σ : mS} {H : Heap} {locs : List Loc} {ls : Array Slot}, mP D mb σ H → mF mb s.heap H locs → lv_has ls 8 [(0, .ref mb), (1, .int x1), (2, .int x2), (3, .int x3), (4, .int x4), (5, .int x5)] → k48 x1 x2 x3 x4 x5 σ = some q → mWw p l e 16 408 s m args below meth c D mb q.2 (some (.int q.1)) H locs (F0 m 48 ls [])) (hl : lv_has ls 8 [(0, .ref mb), (1, .int x1), (2, .int x2), (3, .int x3), (4, .int x4), (5, .int x5)]) (h : f_made_210 k48 x1 x2 x3 x4 x5 σ = some q) : mWw p l e 16 408 s m args below meth c D mb q.2 (some (.int q.1)) H locs (F0 m 210 ls []) := by
  have hx := X.1
  have hb := X.2.1
  have hown := X.2.2.2.1
  have hts := X.2.2.2.2.1
  have h : (f_made_212 k48 (x1) (x2) (x3) (x5) (x4) σ) = some q := h
  refine lv_iload hx hb dX12_made_210 (lv_at hl 4 rfl) ?_
  exact N_made_212 X hP hF hk48 (lv_sub hl [0, 1, 2, 3, 5] rfl) h
set_option maxRecDepth 20000 in
set_option maxHeartbeats 4000000 in
theorem N_made_167 {p : Program} {l : Launch} {e : Env} {s : State} {m : MethodId} {args : Array Value} {below : List Frame} {meth : Method} {c : Code} {D : mD} {mb : Nat} {k48 : Int32 → Int32 → Int32 → Int32 → Int32 → mS → Option (Int32 × mS)}  {x1 : Int32} {x3 : Int32} {x4 : Int32} {x5 : Int32} {x6 : Int32} {y0 : Int32} {σ : mS} {H : Heap} {locs : List Loc} {ls : Array Slot} {q : Int32 × mS} (X : mX p s m args meth c cX12_made 8 (some .int) D) (hP : mP D mb σ H) (hF : mF mb s.heap H locs) (hk48 : ∀ {x1 : Int32} {x2 : Int32} {x3 : Int32} {x4 : Int32} {x5 : Int32} {σ : mS} {H : Heap} {locs : List Loc} {ls : Array Slot}, mP D mb σ H → mF mb s.heap H locs → lv_has ls 8 [(0, .ref mb), (1, .int x1), (2, .int x2), (3, .int x3), (4, .int x4), (5, .int x5)] → k48 x1 x2 x3 x4 x5 σ = some q → mWw p l e 16 408 s m args below meth c D mb q.2 (some (.int q.1)) H locs (F0 m 48 ls [])) (hl : lv_has ls 8 [(0, .ref mb), (1, .int x1), (3, .int x3), (4, .int x4), (5, .int x5), (6, .int x6)]) (h : f_made_167 k48 x1 x3 x4 x5 x6 y0 σ = some q) : mWw p l e 16 408 s m args below meth c D mb q.2 (some (.int q.1)) H locs (F0 m 167 ls [.int y0]) := by
  have hx := X.1
  have hb := X.2.1
  have hown := X.2.2.2.1
  have hts := X.2.2.2.2.1
  have h : ((rd σ 43 (((12:Int32) * x6) + (7:Int32))).bind (fun v1 => if x6 = x1 then ((rd σ 43 (((12:Int32) * x6) + (9:Int32))).bind (fun v2 => if v2 ≤ (0:Int32) then (f_made_210 k48 (x1) ((y0 + v1)) (x3) (x4) (x5) σ) else (f_made_212 k48 (x1) ((y0 + v1)) (x3) (x5) ((y0 + v1)) σ))) else (f_made_210 k48 (x1) ((y0 + v1)) (x3) (x4) (x5) σ))) = some q := h
  refine lv_istore_n hx hb dX12_made_167 rfl hl (Nat.le_of_ble_eq_true rfl) rfl (fun ls (hl : lv_has ls 8 [(2, .int y0), (0, .ref mb), (1, .int x1), (3, .int x3), (4, .int x4), (5, .int x5), (6, .int x6)]) => ?_)
  refine lv_iload_n hx hb dX12_made_168 rfl (lv_at hl 0 rfl) ?_
  refine lv_aload_n hx hb dX12_made_169 rfl (lv_at hl 1 rfl) ?_
  refine mg_val X hP dX12_made_170 ?_
  refine lv_bipush (v := (12:Int32)) hx hb dX12_made_173 (by decide) ?_
  refine lv_iload hx hb dX12_made_175 (lv_at hl 6 rfl) ?_
  refine lv_imul hx hb dX12_made_177 ?_
  refine lv_bipush (v := (7:Int32)) hx hb dX12_made_178 (by decide) ?_
  refine lv_iadd hx hb dX12_made_180 ?_
  obtain ⟨v1, hv1, h⟩ := ob h
  refine m_ald X hP hv1 dX12_made_181 ?_
  refine lv_iadd hx hb dX12_made_182 ?_
  refine lv_istore_n hx hb dX12_made_183 rfl hl (Nat.le_of_ble_eq_true rfl) rfl (fun ls (hl : lv_has ls 8 [(2, .int (y0 + v1)), (0, .ref mb), (1, .int x1), (3, .int x3), (4, .int x4), (5, .int x5), (6, .int x6)]) => ?_)
  refine lv_iload hx hb dX12_made_184 (lv_at hl 6 rfl) ?_
  refine lv_iload_n hx hb dX12_made_186 rfl (lv_at hl 2 rfl) ?_
  refine lv_icmp_ne (tgt := 210) hx hb dX12_made_187 rfl (fun hc => ?_) (fun hc => ?_)
  · have h := ine hc h
    exact N_made_210 X hP hF hk48 (lv_sub hl [1, 2, 0, 3, 4, 5] rfl) h
  · have h := ip hc h
    refine lv_aload_n hx hb dX12_made_190 rfl (lv_at hl 1 rfl) ?_
    refine mg_val X hP dX12_made_191 ?_
    refine lv_bipush (v := (12:Int32)) hx hb dX12_made_194 (by decide) ?_
    refine lv_iload hx hb dX12_made_196 (lv_at hl 6 rfl) ?_
    refine lv_imul hx hb dX12_made_198 ?_
    refine lv_bipush (v := (9:Int32)) hx hb dX12_made_199 (by decide) ?_
    refine lv_iadd hx hb dX12_made_201 ?_
    obtain ⟨v2, hv2, h⟩ := ob h
    refine m_ald X hP hv2 dX12_made_202 ?_
    refine lv_if_le (tgt := 210) hx hb dX12_made_203 rfl (fun hc => ?_) (fun hc => ?_)
    · have h := ip hc h
      exact N_made_210 X hP hF hk48 (lv_sub hl [1, 2, 0, 3, 4, 5] rfl) h
    · have h := ine hc h
      refine lv_iload_n hx hb dX12_made_206 rfl (lv_at hl 0 rfl) ?_
      refine lv_goto (tgt := 212) hx hb dX12_made_207 rfl ?_
      exact N_made_212 X hP hF hk48 (lv_sub hl [1, 2, 0, 3, 5] rfl) h
set_option maxRecDepth 20000 in
set_option maxHeartbeats 4000000 in
theorem N_made_127 {p : Program} {l : Launch} {e : Env} {s : State} {m : MethodId} {args : Array Value} {below : List Frame} {meth : Method} {c : Code} {D : mD} {mb : Nat} {k48 : Int32 → Int32 → Int32 → Int32 → Int32 → mS → Option (Int32 × mS)}  {x1 : Int32} {x2 : Int32} {x4 : Int32} {x5 : Int32} {x6 : Int32} {x7 : Int32} {y0 : Int32} {y1 : Int32} {σ : mS} {H : Heap} {locs : List Loc} {ls : Array Slot} {q : Int32 × mS} (X : mX p s m args meth c cX12_made 8 (some .int) D) (hP : mP D mb σ H) (hF : mF mb s.heap H locs) (hk48 : ∀ {x1 : Int32} {x2 : Int32} {x3 : Int32} {x4 : Int32} {x5 : Int32} {σ : mS} {H : Heap} {locs : List Loc} {ls : Array Slot}, mP D mb σ H → mF mb s.heap H locs → lv_has ls 8 [(0, .ref mb), (1, .int x1), (2, .int x2), (3, .int x3), (4, .int x4), (5, .int x5)] → k48 x1 x2 x3 x4 x5 σ = some q → mWw p l e 16 408 s m args below meth c D mb q.2 (some (.int q.1)) H locs (F0 m 48 ls [])) (hl : lv_has ls 8 [(0, .ref mb), (1, .int x1), (2, .int x2), (4, .int x4), (5, .int x5), (6, .int x6), (7, .int x7)]) (h : f_made_127 k48 x1 x2 x4 x5 x6 x7 y0 y1 σ = some q) : mWw p l e 16 408 s m args below meth c D mb q.2 (some (.int q.1)) H locs (F0 m 127 ls [.int y1, .int y0]) := by
  have hx := X.1
  have hb := X.2.1
  have hown := X.2.2.2.1
  have hts := X.2.2.2.2.1
  have h : (if x7 = (0:Int32) then ((rd σ 43 (((12:Int32) * x6) + (8:Int32))).bind (fun v1 => if v1 < (0:Int32) then (f_made_167 k48 (x1) ((y0 ||| y1)) (x4) (x5) (x6) (x2) σ) else ((rd σ 43 (((12:Int32) * x6) + (8:Int32))).bind (fun v2 => f_made_167 k48 (x1) ((y0 ||| y1)) (x4) (x5) (x6) (v2) σ)))) else (f_made_214 k48 (x1) (x2) ((y0 ||| y1)) (x4) (x5) σ)) = some q := h
  refine lv_ior hx hb dX12_made_127 ?_
  refine lv_istore_n hx hb dX12_made_128 rfl hl (Nat.le_of_ble_eq_true rfl) rfl (fun ls (hl : lv_has ls 8 [(3, .int (y0 ||| y1)), (0, .ref mb), (1, .int x1), (2, .int x2), (4, .int x4), (5, .int x5), (6, .int x6), (7, .int x7)]) => ?_)
  refine lv_iload hx hb dX12_made_129 (lv_at hl 7 rfl) ?_
  refine lv_if_ne (tgt := 214) hx hb dX12_made_131 rfl (fun hc => ?_) (fun hc => ?_)
  · have h := ine hc h
    exact N_made_214 X hP hF hk48 (lv_sub hl [1, 2, 3, 0, 4, 5] rfl) h
  · have h := ip hc h
    refine lv_aload_n hx hb dX12_made_134 rfl (lv_at hl 1 rfl) ?_
    refine mg_val X hP dX12_made_135 ?_
    refine lv_bipush (v := (12:Int32)) hx hb dX12_made_138 (by decide) ?_
    refine lv_iload hx hb dX12_made_140 (lv_at hl 6 rfl) ?_
    refine lv_imul hx hb dX12_made_142 ?_
    refine lv_bipush (v := (8:Int32)) hx hb dX12_made_143 (by decide) ?_
    refine lv_iadd hx hb dX12_made_145 ?_
    obtain ⟨v1, hv1, h⟩ := ob h
    refine m_ald X hP hv1 dX12_made_146 ?_
    refine lv_if_lt (tgt := 166) hx hb dX12_made_147 rfl (fun hc => ?_) (fun hc => ?_)
    · have h := ip hc h
      refine lv_iload_n hx hb dX12_made_166 rfl (lv_at hl 3 rfl) ?_
      exact N_made_167 X hP hF hk48 (lv_sub hl [1, 2, 0, 4, 5, 6] rfl) h
    · have h := ine hc h
      refine lv_aload_n hx hb dX12_made_150 rfl (lv_at hl 1 rfl) ?_
      refine mg_val X hP dX12_made_151 ?_
      refine lv_bipush (v := (12:Int32)) hx hb dX12_made_154 (by decide) ?_
      refine lv_iload hx hb dX12_made_156 (lv_at hl 6 rfl) ?_
      refine lv_imul hx hb dX12_made_158 ?_
      refine lv_bipush (v := (8:Int32)) hx hb dX12_made_159 (by decide) ?_
      refine lv_iadd hx hb dX12_made_161 ?_
      obtain ⟨v2, hv2, h⟩ := ob h
      refine m_ald X hP hv2 dX12_made_162 ?_
      refine lv_goto (tgt := 167) hx hb dX12_made_163 rfl ?_
      exact N_made_167 X hP hF hk48 (lv_sub hl [1, 2, 0, 4, 5, 6] rfl) h
set_option maxRecDepth 20000 in
set_option maxHeartbeats 4000000 in
theorem N_made_111 {p : Program} {l : Launch} {e : Env} {s : State} {m : MethodId} {args : Array Value} {below : List Frame} {meth : Method} {c : Code} {D : mD} {mb : Nat} {k48 : Int32 → Int32 → Int32 → Int32 → Int32 → mS → Option (Int32 × mS)}  {x1 : Int32} {x2 : Int32} {x3 : Int32} {x4 : Int32} {x5 : Int32} {x6 : Int32} {y0 : Int32} {σ : mS} {H : Heap} {locs : List Loc} {ls : Array Slot} {q : Int32 × mS} (X : mX p s m args meth c cX12_made 8 (some .int) D) (hP : mP D mb σ H) (hF : mF mb s.heap H locs) (hk48 : ∀ {x1 : Int32} {x2 : Int32} {x3 : Int32} {x4 : Int32} {x5 : Int32} {σ : mS} {H : Heap} {locs : List Loc} {ls : Array Slot}, mP D mb σ H → mF mb s.heap H locs → lv_has ls 8 [(0, .ref mb), (1, .int x1), (2, .int x2), (3, .int x3), (4, .int x4), (5, .int x5)] → k48 x1 x2 x3 x4 x5 σ = some q → mWw p l e 16 408 s m args below meth c D mb q.2 (some (.int q.1)) H locs (F0 m 48 ls [])) (hl : lv_has ls 8 [(0, .ref mb), (1, .int x1), (2, .int x2), (3, .int x3), (4, .int x4), (5, .int x5), (6, .int x6)]) (h : f_made_111 k48 x1 x2 x3 x4 x5 x6 y0 σ = some q) : mWw p l e 16 408 s m args below meth c D mb q.2 (some (.int q.1)) H locs (F0 m 111 ls [.int y0]) := by
  have hx := X.1
  have hb := X.2.1
  have hown := X.2.2.2.1
  have hts := X.2.2.2.2.1
  have h : (if y0 = (0:Int32) then (f_made_127 k48 (x1) (x2) (x4) (x5) (x6) (y0) (x3) ((0:Int32)) σ) else (f_made_127 k48 (x1) (x2) (x4) (x5) (x6) (y0) (x3) (((1:Int32) <<< (x6 &&& 31))) σ)) = some q := h
  refine lv_istore hx hb dX12_made_111 hl (Nat.le_of_ble_eq_true rfl) rfl (fun ls (hl : lv_has ls 8 [(7, .int y0), (0, .ref mb), (1, .int x1), (2, .int x2), (3, .int x3), (4, .int x4), (5, .int x5), (6, .int x6)]) => ?_)
  refine lv_iload_n hx hb dX12_made_113 rfl (lv_at hl 4 rfl) ?_
  refine lv_iload hx hb dX12_made_114 (lv_at hl 0 rfl) ?_
  refine lv_if_eq (tgt := 126) hx hb dX12_made_116 rfl (fun hc => ?_) (fun hc => ?_)
  · have h := ip hc h
    refine lv_iconst (v := (0:Int32)) hx hb dX12_made_126 (by decide) ?_
    exact N_made_127 X hP hF hk48 (lv_sub hl [1, 2, 3, 5, 6, 7, 0] rfl) h
  · have h := ine hc h
    refine lv_iconst (v := (1:Int32)) hx hb dX12_made_119 (by decide) ?_
    refine lv_iload hx hb dX12_made_120 (lv_at hl 7 rfl) ?_
    refine lv_ishl hx hb dX12_made_122 ?_
    refine lv_goto (tgt := 127) hx hb dX12_made_123 rfl ?_
    exact N_made_127 X hP hF hk48 (lv_sub hl [1, 2, 3, 5, 6, 7, 0] rfl) h
set_option maxRecDepth 20000 in
set_option maxHeartbeats 4000000 in
theorem N_made_106 {p : Program} {l : Launch} {e : Env} {s : State} {m : MethodId} {args : Array Value} {below : List Frame} {meth : Method} {c : Code} {D : mD} {mb : Nat} {k48 : Int32 → Int32 → Int32 → Int32 → Int32 → mS → Option (Int32 × mS)}  {x1 : Int32} {x2 : Int32} {x3 : Int32} {x4 : Int32} {x5 : Int32} {x6 : Int32} {σ : mS} {H : Heap} {locs : List Loc} {ls : Array Slot} {q : Int32 × mS} (X : mX p s m args meth c cX12_made 8 (some .int) D) (hP : mP D mb σ H) (hF : mF mb s.heap H locs) (hk48 : ∀ {x1 : Int32} {x2 : Int32} {x3 : Int32} {x4 : Int32} {x5 : Int32} {σ : mS} {H : Heap} {locs : List Loc} {ls : Array Slot}, mP D mb σ H → mF mb s.heap H locs → lv_has ls 8 [(0, .ref mb), (1, .int x1), (2, .int x2), (3, .int x3), (4, .int x4), (5, .int x5)] → k48 x1 x2 x3 x4 x5 σ = some q → mWw p l e 16 408 s m args below meth c D mb q.2 (some (.int q.1)) H locs (F0 m 48 ls [])) (hl : lv_has ls 8 [(0, .ref mb), (1, .int x1), (2, .int x2), (3, .int x3), (4, .int x4), (5, .int x5), (6, .int x6)]) (h : f_made_106 k48 x1 x2 x3 x4 x5 x6 σ = some q) : mWw p l e 16 408 s m args below meth c D mb q.2 (some (.int q.1)) H locs (F0 m 106 ls []) := by
  have hx := X.1
  have hb := X.2.1
  have hown := X.2.2.2.1
  have hts := X.2.2.2.2.1
  have h : (f_made_111 k48 (x1) (x2) (x3) (x4) (x5) (x6) ((1:Int32)) σ) = some q := h
  refine lv_iconst (v := (1:Int32)) hx hb dX12_made_106 (by decide) ?_
  refine lv_goto (tgt := 111) hx hb dX12_made_107 rfl ?_
  exact N_made_111 X hP hF hk48 (lv_sub hl [0, 1, 2, 3, 4, 5, 6] rfl) h
set_option maxRecDepth 20000 in
set_option maxHeartbeats 4000000 in
theorem N_made_110 {p : Program} {l : Launch} {e : Env} {s : State} {m : MethodId} {args : Array Value} {below : List Frame} {meth : Method} {c : Code} {D : mD} {mb : Nat} {k48 : Int32 → Int32 → Int32 → Int32 → Int32 → mS → Option (Int32 × mS)}  {x1 : Int32} {x2 : Int32} {x3 : Int32} {x4 : Int32} {x5 : Int32} {x6 : Int32} {σ : mS} {H : Heap} {locs : List Loc} {ls : Array Slot} {q : Int32 × mS} (X : mX p s m args meth c cX12_made 8 (some .int) D) (hP : mP D mb σ H) (hF : mF mb s.heap H locs) (hk48 : ∀ {x1 : Int32} {x2 : Int32} {x3 : Int32} {x4 : Int32} {x5 : Int32} {σ : mS} {H : Heap} {locs : List Loc} {ls : Array Slot}, mP D mb σ H → mF mb s.heap H locs → lv_has ls 8 [(0, .ref mb), (1, .int x1), (2, .int x2), (3, .int x3), (4, .int x4), (5, .int x5)] → k48 x1 x2 x3 x4 x5 σ = some q → mWw p l e 16 408 s m args below meth c D mb q.2 (some (.int q.1)) H locs (F0 m 48 ls [])) (hl : lv_has ls 8 [(0, .ref mb), (1, .int x1), (2, .int x2), (3, .int x3), (4, .int x4), (5, .int x5), (6, .int x6)]) (h : f_made_110 k48 x1 x2 x3 x4 x5 x6 σ = some q) : mWw p l e 16 408 s m args below meth c D mb q.2 (some (.int q.1)) H locs (F0 m 110 ls []) := by
  have hx := X.1
  have hb := X.2.1
  have hown := X.2.2.2.1
  have hts := X.2.2.2.2.1
  have h : (f_made_111 k48 (x1) (x2) (x3) (x4) (x5) (x6) ((0:Int32)) σ) = some q := h
  refine lv_iconst (v := (0:Int32)) hx hb dX12_made_110 (by decide) ?_
  exact N_made_111 X hP hF hk48 (lv_sub hl [0, 1, 2, 3, 4, 5, 6] rfl) h
set_option maxRecDepth 20000 in
set_option maxHeartbeats 4000000 in
theorem N_made_48 {p : Program} {l : Launch} {e : Env} {s : State} {m : MethodId} {args : Array Value} {below : List Frame} {meth : Method} {c : Code} {D : mD} {mb : Nat}  {n : Nat} {x1 : Int32} {x2 : Int32} {x3 : Int32} {x4 : Int32} {x5 : Int32} {σ : mS} {H : Heap} {locs : List Loc} {ls : Array Slot} {q : Int32 × mS} (X : mX p s m args meth c cX12_made 8 (some .int) D) (hP : mP D mb σ H) (hF : mF mb s.heap H locs)  (hl : lv_has ls 8 [(0, .ref mb), (1, .int x1), (2, .int x2), (3, .int x3), (4, .int x4), (5, .int x5)]) (h : f_made_48  n x1 x2 x3 x4 x5 σ = some q) : mWw p l e 16 408 s m args below meth c D mb q.2 (some (.int q.1)) H locs (F0 m 48 ls []) := by
  have hx := X.1
  have hb := X.2.1
  have hown := X.2.2.2.1
  have hts := X.2.2.2.2.1
  induction n generalizing x1 x2 x3 x4 x5 σ H locs ls with
  | zero => exact absurd (show none = some q from h) (by simp)
  | succ n ih =>
    have h : (if (σ.2 76) ≤ x5 then (some (x4, σ)) else ((rd σ 75 x5).bind (fun v1 => (rd σ 43 (((12:Int32) * v1) + (5:Int32))).bind (fun v2 => if v2 = (0:Int32) then (f_made_106 (f_made_48 n) (x1) (x2) (x3) (x4) (x5) (v1) σ) else ((rd σ 77 v1).bind (fun v3 => if v3 < (0:Int32) then (f_made_110 (f_made_48 n) (x1) (x2) (x3) (x4) (x5) (v1) σ) else ((rd σ 77 v1).bind (fun v4 => (f_bit (x3) (v4)).bind (fun v5 => if v5 = (0:Int32) then (f_made_110 (f_made_48 n) (x1) (x2) (x3) (x4) (x5) (v1) σ) else (f_made_106 (f_made_48 n) (x1) (x2) (x3) (x4) (x5) (v1) σ)))))))))) = some q := h
    refine lv_iload hx hb dX12_made_48 (lv_at hl 5 rfl) ?_
    refine lv_aload_n hx hb dX12_made_50 rfl (lv_at hl 0 rfl) ?_
    refine mg_many X hP dX12_made_51 ?_
    refine lv_icmp_ge (tgt := 220) hx hb dX12_made_54 rfl (fun hc => ?_) (fun hc => ?_)
    · have h := ip hc h
      refine lv_iload hx hb dX12_made_220 (lv_at hl 4 rfl) ?_
      obtain rfl := sj h
      exact m_wi X hP hF dX12_made_222
    · have h := ine hc h
      refine lv_aload_n hx hb dX12_made_57 rfl (lv_at hl 0 rfl) ?_
      refine mg_order X hP dX12_made_58 ?_
      refine lv_iload hx hb dX12_made_61 (lv_at hl 5 rfl) ?_
      obtain ⟨v1, hv1, h⟩ := ob h
      refine m_ald X hP hv1 dX12_made_63 ?_
      refine lv_istore hx hb dX12_made_64 hl (Nat.le_of_ble_eq_true rfl) rfl (fun ls (hl : lv_has ls 8 [(6, .int v1), (0, .ref mb), (1, .int x1), (2, .int x2), (3, .int x3), (4, .int x4), (5, .int x5)]) => ?_)
      refine lv_aload_n hx hb dX12_made_66 rfl (lv_at hl 1 rfl) ?_
      refine mg_val X hP dX12_made_67 ?_
      refine lv_bipush (v := (12:Int32)) hx hb dX12_made_70 (by decide) ?_
      refine lv_iload hx hb dX12_made_72 (lv_at hl 0 rfl) ?_
      refine lv_imul hx hb dX12_made_74 ?_
      refine lv_iconst (v := (5:Int32)) hx hb dX12_made_75 (by decide) ?_
      refine lv_iadd hx hb dX12_made_76 ?_
      obtain ⟨v2, hv2, h⟩ := ob h
      refine m_ald X hP hv2 dX12_made_77 ?_
      refine lv_if_eq (tgt := 106) hx hb dX12_made_78 rfl (fun hc => ?_) (fun hc => ?_)
      · have h := ip hc h
        exact N_made_106 X hP hF ih (lv_sub hl [1, 2, 3, 4, 5, 6, 0] rfl) h
      · have h := ine hc h
        refine lv_aload_n hx hb dX12_made_81 rfl (lv_at hl 1 rfl) ?_
        refine mg_shp X hP dX12_made_82 ?_
        refine lv_iload hx hb dX12_made_85 (lv_at hl 0 rfl) ?_
        obtain ⟨v3, hv3, h⟩ := ob h
        refine m_ald X hP hv3 dX12_made_87 ?_
        refine lv_if_lt (tgt := 110) hx hb dX12_made_88 rfl (fun hc => ?_) (fun hc => ?_)
        · have h := ip hc h
          exact N_made_110 X hP hF ih (lv_sub hl [1, 2, 3, 4, 5, 6, 0] rfl) h
        · have h := ine hc h
          refine lv_aload_n hx hb dX12_made_91 rfl (lv_at hl 1 rfl) ?_
          refine lv_iload_n hx hb dX12_made_92 rfl (lv_at hl 4 rfl) ?_
          refine lv_aload_n hx hb dX12_made_93 rfl (lv_at hl 1 rfl) ?_
          refine mg_shp X hP dX12_made_94 ?_
          refine lv_iload hx hb dX12_made_97 (lv_at hl 0 rfl) ?_
          obtain ⟨v4, hv4, h⟩ := ob h
          refine m_ald X hP hv4 dX12_made_99 ?_
          obtain ⟨v5, hv5, h⟩ := ob h
          refine cl_bit X hP hv5 ⟨Nat.le_of_ble_eq_true rfl, Nat.le_of_ble_eq_true rfl⟩ hl.1 (Nat.le_of_ble_eq_true rfl) dX12_made_100 ?_
          refine lv_if_eq (tgt := 110) hx hb dX12_made_103 rfl (fun hc => ?_) (fun hc => ?_)
          · have h := ip hc h
            exact N_made_110 X hP hF ih (lv_sub hl [1, 2, 3, 4, 5, 6, 0] rfl) h
          · have h := ine hc h
            exact N_made_106 X hP hF ih (lv_sub hl [1, 2, 3, 4, 5, 6, 0] rfl) h
set_option maxRecDepth 20000 in
set_option maxHeartbeats 4000000 in
theorem N_made_26 {p : Program} {l : Launch} {e : Env} {s : State} {m : MethodId} {args : Array Value} {below : List Frame} {meth : Method} {c : Code} {D : mD} {mb : Nat}   {x1 : Int32} {y1 : Int32} {σ : mS} {H : Heap} {locs : List Loc} {ls : Array Slot} {q : Int32 × mS} (X : mX p s m args meth c cX12_made 8 (some .int) D) (hP : mP D mb σ H) (hF : mF mb s.heap H locs)  (hl : lv_has ls 8 [(0, .ref mb), (1, .int x1)]) (h : f_made_26  x1 y1 σ = some q) : mWw p l e 16 408 s m args below meth c D mb q.2 (some (.int q.1)) H locs (F0 m 26 ls [.int y1, .ref mb]) := by
  have hx := X.1
  have hb := X.2.1
  have hown := X.2.2.2.1
  have hts := X.2.2.2.2.1
  have h : ((f_holds (y1) σ).bind (fun v1 => if v1.1 = (0:Int32) then ((f_read  v1.2).bind (fun v2 => f_made_48 4000 (x1) ((0:Int32)) ((0:Int32)) (((-1):Int32)) ((0:Int32)) v2)) else (some (((-1):Int32), v1.2)))) = some q := h
  obtain ⟨v1, hv1, h⟩ := ob h
  refine cl_holds X hP hF hv1 ⟨Nat.le_of_ble_eq_true rfl, Nat.le_of_ble_eq_true rfl⟩ hl.1 (Nat.le_of_ble_eq_true rfl) dX12_made_26 (fun H locs hP hF => ?_)
  refine lv_if_eq (tgt := 34) hx hb dX12_made_29 rfl (fun hc => ?_) (fun hc => ?_)
  · have h := ip hc h
    refine lv_aload_n hx hb dX12_made_34 rfl (lv_at hl 0 rfl) ?_
    obtain ⟨v2, hv2, h⟩ := ob h
    refine cl_read X hP hF hv2 ⟨Nat.le_of_ble_eq_true rfl, Nat.le_of_ble_eq_true rfl⟩ hl.1 (Nat.le_of_ble_eq_true rfl) dX12_made_35 (fun H locs hP hF => ?_)
    refine lv_iconst (v := (0:Int32)) hx hb dX12_made_38 (by decide) ?_
    refine lv_istore_n hx hb dX12_made_39 rfl hl (Nat.le_of_ble_eq_true rfl) rfl (fun ls (hl : lv_has ls 8 [(2, .int (0:Int32)), (0, .ref mb), (1, .int x1)]) => ?_)
    refine lv_iconst (v := (0:Int32)) hx hb dX12_made_40 (by decide) ?_
    refine lv_istore_n hx hb dX12_made_41 rfl hl (Nat.le_of_ble_eq_true rfl) rfl (fun ls (hl : lv_has ls 8 [(3, .int (0:Int32)), (2, .int (0:Int32)), (0, .ref mb), (1, .int x1)]) => ?_)
    refine lv_iconst (v := ((-1):Int32)) hx hb dX12_made_42 (by decide) ?_
    refine lv_istore hx hb dX12_made_43 hl (Nat.le_of_ble_eq_true rfl) rfl (fun ls (hl : lv_has ls 8 [(4, .int ((-1):Int32)), (3, .int (0:Int32)), (2, .int (0:Int32)), (0, .ref mb), (1, .int x1)]) => ?_)
    refine lv_iconst (v := (0:Int32)) hx hb dX12_made_45 (by decide) ?_
    refine lv_istore hx hb dX12_made_46 hl (Nat.le_of_ble_eq_true rfl) rfl (fun ls (hl : lv_has ls 8 [(5, .int (0:Int32)), (4, .int ((-1):Int32)), (3, .int (0:Int32)), (2, .int (0:Int32)), (0, .ref mb), (1, .int x1)]) => ?_)
    exact N_made_48 X hP hF (lv_sub hl [4, 5, 3, 2, 1, 0] rfl) h
  · have h := ine hc h
    refine lv_iconst (v := ((-1):Int32)) hx hb dX12_made_32 (by decide) ?_
    obtain rfl := sj h
    exact m_wi X hP hF dX12_made_33
set_option maxRecDepth 20000 in
set_option maxHeartbeats 4000000 in
theorem K_made (l : Launch) (D : mD) (mb : Nat) (σ : mS) (x1 : Int32) {q : Int32 × mS} (h : f_made x1 σ = some q) : Met l yX12_made (Cond.code yX12_made cX12_made 8 (some .int) :: BG) (rM 16 408) (mPc D mb σ [.int x1]) (mQw D mb q.2 (some (.int q.1))) 0 0 (mReg mb) := by
  refine Met.ofW (cc := cX12_made) (maxL := 8) (ret := (some .int)) (by decide) rfl ?_
  intro p e s m args below meth c s₁ B hml hv
  obtain ⟨rfl, hP, hK⟩ := hv
  have X := mX_of B hml rfl hK
  have hx := X.1
  have hb := X.2.1
  have hown := X.2.2.2.1
  have hts := X.2.2.2.2.1
  have hl := lv_entry (.ref mb :: [.int x1]) (n := 8) (Nat.le_of_ble_eq_true rfl)
  rw [lg_entry_eq]
  generalize (lg_sl (.ref mb :: [.int x1]) ++ List.replicate (8 - (lg_sl (.ref mb :: [.int x1])).length) Slot.unset).toArray = ls at hl ⊢
  have hl : lv_has ls 8 [(0, .ref mb), (1, .int x1)] := hl
  have hF : mF mb s.heap s.heap [] := mF.rf
  show mWw p l e 16 408 s m (Value.ref mb :: [.int x1]).toArray below meth c D mb q.2 (some (.int q.1)) s.heap [] (F0 m 0 ls [])
  have h : ((f_isElement (x1) σ).bind (fun v1 => if v1 = (0:Int32) then (f_made_26 (x1) ((1:Int32)) σ) else ((f_inDoc (x1) σ).bind (fun v2 => if v2 = (0:Int32) then (f_made_26 (x1) ((2:Int32)) σ) else (f_made_26 (x1) ((0:Int32)) σ))))) = some q := h
  refine lv_aload_n hx hb dX12_made_0 rfl (lv_at hl 0 rfl) ?_
  refine lv_aload_n hx hb dX12_made_1 rfl (lv_at hl 0 rfl) ?_
  refine lv_iload_n hx hb dX12_made_2 rfl (lv_at hl 1 rfl) ?_
  obtain ⟨v1, hv1, h⟩ := ob h
  refine cl_isElement X hP hv1 ⟨Nat.le_of_ble_eq_true rfl, Nat.le_of_ble_eq_true rfl⟩ hl.1 (Nat.le_of_ble_eq_true rfl) dX12_made_3 ?_
  refine lv_if_ne (tgt := 13) hx hb dX12_made_6 rfl (fun hc => ?_) (fun hc => ?_)
  · have h := ine hc h
    refine lv_aload_n hx hb dX12_made_13 rfl (lv_at hl 0 rfl) ?_
    refine lv_iload_n hx hb dX12_made_14 rfl (lv_at hl 1 rfl) ?_
    obtain ⟨v2, hv2, h⟩ := ob h
    refine cl_inDoc X hP hv2 ⟨Nat.le_of_ble_eq_true rfl, Nat.le_of_ble_eq_true rfl⟩ hl.1 (Nat.le_of_ble_eq_true rfl) dX12_made_15 ?_
    refine lv_if_ne (tgt := 25) hx hb dX12_made_18 rfl (fun hc => ?_) (fun hc => ?_)
    · have h := ine hc h
      refine lv_iconst (v := (0:Int32)) hx hb dX12_made_25 (by decide) ?_
      exact N_made_26 X hP hF (lv_sub hl [0, 1] rfl) h
    · have h := ip hc h
      refine lv_iconst (v := (2:Int32)) hx hb dX12_made_21 (by decide) ?_
      refine lv_goto (tgt := 26) hx hb dX12_made_22 rfl ?_
      exact N_made_26 X hP hF (lv_sub hl [0, 1] rfl) h
  · have h := ip hc h
    refine lv_iconst (v := (1:Int32)) hx hb dX12_made_9 (by decide) ?_
    refine lv_goto (tgt := 26) hx hb dX12_made_10 rfl ?_
    exact N_made_26 X hP hF (lv_sub hl [0, 1] rfl) h
-- why(III)I
def f_why_110  (y0 : Int32) (σ : mS) : Option (Int32 × mS) := some (y0, σ)
def f_why_93  (x4 : Int32) (σ : mS) : Option (Int32 × mS) := (rd σ 37 x4).bind (fun v1 => if (0:Int32) ≤ v1 then (f_why_110 ((10:Int32)) σ) else (f_why_110 ((11:Int32)) σ))
def f_why_148  (y0 : Int32) (σ : mS) : Option (Int32 × mS) := some (y0, σ)
def f_why_133  (x3 : Int32) (σ : mS) : Option (Int32 × mS) := (f_stands (x3) σ).bind (fun v1 => if v1 = (0:Int32) then (f_why_148 ((9:Int32)) σ) else (f_why_148 ((8:Int32)) σ))
def f_why_193  (y0 : Int32) (σ : mS) : Option (Int32 × mS) := some (y0, σ)
def f_why_49  (x1 : Int32) (x2 : Int32) (x3 : Int32) (y1 : Int32) (σ : mS) : Option (Int32 × mS) := (f_holds (y1) σ).bind (fun v1 => if v1.1 = (0:Int32) then ((f_read  v1.2).bind (fun v2 => (rd v2 37 (((16:Int32) * x3) + x2)).bind (fun v3 => if v3 < (0:Int32) then (f_why_93 ((((16:Int32) * x3) + x2)) v2) else ((rd v2 32 x3).bind (fun v4 => (rd v2 30 v4).bind (fun v5 => if v5 = (0:Int32) then (f_why_93 ((((16:Int32) * x3) + x2)) v2) else ((f_stands (x3) v2).bind (fun v6 => if v6 = (0:Int32) then (f_why_133 (x3) v2) else ((rd v2 74 x3).bind (fun v7 => (f_bit (v7) (x1)).bind (fun v8 => if v8 = (0:Int32) then (f_why_133 (x3) v2) else ((f_fits (x3) (x1) ((0:Int32)) ((0:Int32)) v2).bind (fun v9 => if v9 = (0:Int32) then (some ((7:Int32), v2)) else ((f_winner (x1) (x2) ((3:Int32)) ((0:Int32)) ((0:Int32)) v2).bind (fun v10 => if v10 = (((16:Int32) * x3) + x2) then (f_why_193 ((0:Int32)) v2) else ((f_against (v10) ((((16:Int32) * x3) + x2)) v2).bind (fun v11 => f_why_193 (v11) v2))))))))))))))))) else (some (((-1):Int32), v1.2)))
def f_why_17  (x1 : Int32) (x2 : Int32) (x3 : Int32) (σ : mS) : Option (Int32 × mS) := f_why_49 (x1) (x2) (x3) ((1:Int32)) σ
def f_why (x1 : Int32) (x2 : Int32) (x3 : Int32) (σ : mS) : Option (Int32 × mS) := (f_isElement (x1) σ).bind (fun v1 => if v1 = (0:Int32) then (f_why_17 (x1) (x2) (x3) σ) else ((f_isRule (x3) σ).bind (fun v2 => if v2 = (0:Int32) then (f_why_17 (x1) (x2) (x3) σ) else ((f_in (x2) ((0:Int32)) ((14:Int32))).bind (fun v3 => if v3 = (0:Int32) then (f_why_49 (x1) (x2) (x3) ((2:Int32)) σ) else ((f_inDoc (x1) σ).bind (fun v4 => if v4 = (0:Int32) then (f_why_49 (x1) (x2) (x3) ((3:Int32)) σ) else (f_why_49 (x1) (x2) (x3) ((0:Int32)) σ))))))))
set_option maxRecDepth 20000 in
set_option maxHeartbeats 4000000 in
theorem N_why_110 {p : Program} {l : Launch} {e : Env} {s : State} {m : MethodId} {args : Array Value} {below : List Frame} {meth : Method} {c : Code} {D : mD} {mb : Nat}   {y0 : Int32} {σ : mS} {H : Heap} {locs : List Loc} {ls : Array Slot} {q : Int32 × mS} (X : mX p s m args meth c cX12_why 6 (some .int) D) (hP : mP D mb σ H) (hF : mF mb s.heap H locs)  (hl : lv_has ls 6 [(0, .ref mb)]) (h : f_why_110  y0 σ = some q) : mWw p l e 16 408 s m args below meth c D mb q.2 (some (.int q.1)) H locs (F0 m 110 ls [.int y0]) := by
  have hx := X.1
  have hb := X.2.1
  have hown := X.2.2.2.1
  have hts := X.2.2.2.2.1
  have h : (some (y0, σ)) = some q := h
  obtain rfl := sj h
  exact m_wi X hP hF dX12_why_110
set_option maxRecDepth 20000 in
set_option maxHeartbeats 4000000 in
theorem N_why_93 {p : Program} {l : Launch} {e : Env} {s : State} {m : MethodId} {args : Array Value} {below : List Frame} {meth : Method} {c : Code} {D : mD} {mb : Nat}   {x4 : Int32} {σ : mS} {H : Heap} {locs : List Loc} {ls : Array Slot} {q : Int32 × mS} (X : mX p s m args meth c cX12_why 6 (some .int) D) (hP : mP D mb σ H) (hF : mF mb s.heap H locs)  (hl : lv_has ls 6 [(0, .ref mb), (4, .int x4)]) (h : f_why_93  x4 σ = some q) : mWw p l e 16 408 s m args below meth c D mb q.2 (some (.int q.1)) H locs (F0 m 93 ls []) := by
  have hx := X.1
  have hb := X.2.1
  have hown := X.2.2.2.1
  have hts := X.2.2.2.2.1
  have h : ((rd σ 37 x4).bind (fun v1 => if (0:Int32) ≤ v1 then (f_why_110 ((10:Int32)) σ) else (f_why_110 ((11:Int32)) σ))) = some q := h
  refine lv_aload_n hx hb dX12_why_93 rfl (lv_at hl 0 rfl) ?_
  refine mg_du X hP dX12_why_94 ?_
  refine lv_iload hx hb dX12_why_97 (lv_at hl 1 rfl) ?_
  obtain ⟨v1, hv1, h⟩ := ob h
  refine m_ald X hP hv1 dX12_why_99 ?_
  refine lv_if_ge (tgt := 108) hx hb dX12_why_100 rfl (fun hc => ?_) (fun hc => ?_)
  · have h := ip hc h
    refine lv_bipush (v := (10:Int32)) hx hb dX12_why_108 (by decide) ?_
    exact N_why_110 X hP hF (lv_sub hl [0] rfl) h
  · have h := ine hc h
    refine lv_bipush (v := (11:Int32)) hx hb dX12_why_103 (by decide) ?_
    refine lv_goto (tgt := 110) hx hb dX12_why_105 rfl ?_
    exact N_why_110 X hP hF (lv_sub hl [0] rfl) h
set_option maxRecDepth 20000 in
set_option maxHeartbeats 4000000 in
theorem N_why_148 {p : Program} {l : Launch} {e : Env} {s : State} {m : MethodId} {args : Array Value} {below : List Frame} {meth : Method} {c : Code} {D : mD} {mb : Nat}   {y0 : Int32} {σ : mS} {H : Heap} {locs : List Loc} {ls : Array Slot} {q : Int32 × mS} (X : mX p s m args meth c cX12_why 6 (some .int) D) (hP : mP D mb σ H) (hF : mF mb s.heap H locs)  (hl : lv_has ls 6 [(0, .ref mb)]) (h : f_why_148  y0 σ = some q) : mWw p l e 16 408 s m args below meth c D mb q.2 (some (.int q.1)) H locs (F0 m 148 ls [.int y0]) := by
  have hx := X.1
  have hb := X.2.1
  have hown := X.2.2.2.1
  have hts := X.2.2.2.2.1
  have h : (some (y0, σ)) = some q := h
  obtain rfl := sj h
  exact m_wi X hP hF dX12_why_148
set_option maxRecDepth 20000 in
set_option maxHeartbeats 4000000 in
theorem N_why_133 {p : Program} {l : Launch} {e : Env} {s : State} {m : MethodId} {args : Array Value} {below : List Frame} {meth : Method} {c : Code} {D : mD} {mb : Nat}   {x3 : Int32} {σ : mS} {H : Heap} {locs : List Loc} {ls : Array Slot} {q : Int32 × mS} (X : mX p s m args meth c cX12_why 6 (some .int) D) (hP : mP D mb σ H) (hF : mF mb s.heap H locs)  (hl : lv_has ls 6 [(0, .ref mb), (3, .int x3)]) (h : f_why_133  x3 σ = some q) : mWw p l e 16 408 s m args below meth c D mb q.2 (some (.int q.1)) H locs (F0 m 133 ls []) := by
  have hx := X.1
  have hb := X.2.1
  have hown := X.2.2.2.1
  have hts := X.2.2.2.2.1
  have h : ((f_stands (x3) σ).bind (fun v1 => if v1 = (0:Int32) then (f_why_148 ((9:Int32)) σ) else (f_why_148 ((8:Int32)) σ))) = some q := h
  refine lv_aload_n hx hb dX12_why_133 rfl (lv_at hl 0 rfl) ?_
  refine lv_iload_n hx hb dX12_why_134 rfl (lv_at hl 1 rfl) ?_
  obtain ⟨v1, hv1, h⟩ := ob h
  refine cl_stands X hP hv1 ⟨Nat.le_of_ble_eq_true rfl, Nat.le_of_ble_eq_true rfl⟩ hl.1 (Nat.le_of_ble_eq_true rfl) dX12_why_135 ?_
  refine lv_if_eq (tgt := 146) hx hb dX12_why_138 rfl (fun hc => ?_) (fun hc => ?_)
  · have h := ip hc h
    refine lv_bipush (v := (9:Int32)) hx hb dX12_why_146 (by decide) ?_
    exact N_why_148 X hP hF (lv_sub hl [0] rfl) h
  · have h := ine hc h
    refine lv_bipush (v := (8:Int32)) hx hb dX12_why_141 (by decide) ?_
    refine lv_goto (tgt := 148) hx hb dX12_why_143 rfl ?_
    exact N_why_148 X hP hF (lv_sub hl [0] rfl) h
set_option maxRecDepth 20000 in
set_option maxHeartbeats 4000000 in
theorem N_why_193 {p : Program} {l : Launch} {e : Env} {s : State} {m : MethodId} {args : Array Value} {below : List Frame} {meth : Method} {c : Code} {D : mD} {mb : Nat}   {y0 : Int32} {σ : mS} {H : Heap} {locs : List Loc} {ls : Array Slot} {q : Int32 × mS} (X : mX p s m args meth c cX12_why 6 (some .int) D) (hP : mP D mb σ H) (hF : mF mb s.heap H locs)  (hl : lv_has ls 6 [(0, .ref mb)]) (h : f_why_193  y0 σ = some q) : mWw p l e 16 408 s m args below meth c D mb q.2 (some (.int q.1)) H locs (F0 m 193 ls [.int y0]) := by
  have hx := X.1
  have hb := X.2.1
  have hown := X.2.2.2.1
  have hts := X.2.2.2.2.1
  have h : (some (y0, σ)) = some q := h
  obtain rfl := sj h
  exact m_wi X hP hF dX12_why_193
set_option maxRecDepth 20000 in
set_option maxHeartbeats 4000000 in
theorem N_why_49 {p : Program} {l : Launch} {e : Env} {s : State} {m : MethodId} {args : Array Value} {below : List Frame} {meth : Method} {c : Code} {D : mD} {mb : Nat}   {x1 : Int32} {x2 : Int32} {x3 : Int32} {y1 : Int32} {σ : mS} {H : Heap} {locs : List Loc} {ls : Array Slot} {q : Int32 × mS} (X : mX p s m args meth c cX12_why 6 (some .int) D) (hP : mP D mb σ H) (hF : mF mb s.heap H locs)  (hl : lv_has ls 6 [(0, .ref mb), (1, .int x1), (2, .int x2), (3, .int x3)]) (h : f_why_49  x1 x2 x3 y1 σ = some q) : mWw p l e 16 408 s m args below meth c D mb q.2 (some (.int q.1)) H locs (F0 m 49 ls [.int y1, .ref mb]) := by
  have hx := X.1
  have hb := X.2.1
  have hown := X.2.2.2.1
  have hts := X.2.2.2.2.1
  have h : ((f_holds (y1) σ).bind (fun v1 => if v1.1 = (0:Int32) then ((f_read  v1.2).bind (fun v2 => (rd v2 37 (((16:Int32) * x3) + x2)).bind (fun v3 => if v3 < (0:Int32) then (f_why_93 ((((16:Int32) * x3) + x2)) v2) else ((rd v2 32 x3).bind (fun v4 => (rd v2 30 v4).bind (fun v5 => if v5 = (0:Int32) then (f_why_93 ((((16:Int32) * x3) + x2)) v2) else ((f_stands (x3) v2).bind (fun v6 => if v6 = (0:Int32) then (f_why_133 (x3) v2) else ((rd v2 74 x3).bind (fun v7 => (f_bit (v7) (x1)).bind (fun v8 => if v8 = (0:Int32) then (f_why_133 (x3) v2) else ((f_fits (x3) (x1) ((0:Int32)) ((0:Int32)) v2).bind (fun v9 => if v9 = (0:Int32) then (some ((7:Int32), v2)) else ((f_winner (x1) (x2) ((3:Int32)) ((0:Int32)) ((0:Int32)) v2).bind (fun v10 => if v10 = (((16:Int32) * x3) + x2) then (f_why_193 ((0:Int32)) v2) else ((f_against (v10) ((((16:Int32) * x3) + x2)) v2).bind (fun v11 => f_why_193 (v11) v2))))))))))))))))) else (some (((-1):Int32), v1.2)))) = some q := h
  obtain ⟨v1, hv1, h⟩ := ob h
  refine cl_holds X hP hF hv1 ⟨Nat.le_of_ble_eq_true rfl, Nat.le_of_ble_eq_true rfl⟩ hl.1 (Nat.le_of_ble_eq_true rfl) dX12_why_49 (fun H locs hP hF => ?_)
  refine lv_if_eq (tgt := 57) hx hb dX12_why_52 rfl (fun hc => ?_) (fun hc => ?_)
  · have h := ip hc h
    refine lv_aload_n hx hb dX12_why_57 rfl (lv_at hl 0 rfl) ?_
    obtain ⟨v2, hv2, h⟩ := ob h
    refine cl_read X hP hF hv2 ⟨Nat.le_of_ble_eq_true rfl, Nat.le_of_ble_eq_true rfl⟩ hl.1 (Nat.le_of_ble_eq_true rfl) dX12_why_58 (fun H locs hP hF => ?_)
    refine lv_bipush (v := (16:Int32)) hx hb dX12_why_61 (by decide) ?_
    refine lv_iload_n hx hb dX12_why_63 rfl (lv_at hl 3 rfl) ?_
    refine lv_imul hx hb dX12_why_64 ?_
    refine lv_iload_n hx hb dX12_why_65 rfl (lv_at hl 2 rfl) ?_
    refine lv_iadd hx hb dX12_why_66 ?_
    refine lv_istore hx hb dX12_why_67 hl (Nat.le_of_ble_eq_true rfl) rfl (fun ls (hl : lv_has ls 6 [(4, .int (((16:Int32) * x3) + x2)), (0, .ref mb), (1, .int x1), (2, .int x2), (3, .int x3)]) => ?_)
    refine lv_aload_n hx hb dX12_why_69 rfl (lv_at hl 1 rfl) ?_
    refine mg_du X hP dX12_why_70 ?_
    refine lv_iload hx hb dX12_why_73 (lv_at hl 0 rfl) ?_
    obtain ⟨v3, hv3, h⟩ := ob h
    refine m_ald X hP hv3 dX12_why_75 ?_
    refine lv_if_lt (tgt := 93) hx hb dX12_why_76 rfl (fun hc => ?_) (fun hc => ?_)
    · have h := ip hc h
      exact N_why_93 X hP hF (lv_sub hl [1, 0] rfl) h
    · have h := ine hc h
      refine lv_aload_n hx hb dX12_why_79 rfl (lv_at hl 1 rfl) ?_
      refine mg_son X hP dX12_why_80 ?_
      refine lv_aload_n hx hb dX12_why_83 rfl (lv_at hl 1 rfl) ?_
      refine mg_rs X hP dX12_why_84 ?_
      refine lv_iload_n hx hb dX12_why_87 rfl (lv_at hl 4 rfl) ?_
      obtain ⟨v4, hv4, h⟩ := ob h
      refine m_ald X hP hv4 dX12_why_88 ?_
      obtain ⟨v5, hv5, h⟩ := ob h
      refine m_ald X hP hv5 dX12_why_89 ?_
      refine lv_if_ne (tgt := 111) hx hb dX12_why_90 rfl (fun hc => ?_) (fun hc => ?_)
      · have h := ine hc h
        refine lv_aload_n hx hb dX12_why_111 rfl (lv_at hl 1 rfl) ?_
        refine lv_iload_n hx hb dX12_why_112 rfl (lv_at hl 4 rfl) ?_
        obtain ⟨v6, hv6, h⟩ := ob h
        refine cl_stands X hP hv6 ⟨Nat.le_of_ble_eq_true rfl, Nat.le_of_ble_eq_true rfl⟩ hl.1 (Nat.le_of_ble_eq_true rfl) dX12_why_113 ?_
        refine lv_if_eq (tgt := 133) hx hb dX12_why_116 rfl (fun hc => ?_) (fun hc => ?_)
        · have h := ip hc h
          exact N_why_133 X hP hF (lv_sub hl [1, 4] rfl) h
        · have h := ine hc h
          refine lv_aload_n hx hb dX12_why_119 rfl (lv_at hl 1 rfl) ?_
          refine lv_aload_n hx hb dX12_why_120 rfl (lv_at hl 1 rfl) ?_
          refine mg_hit X hP dX12_why_121 ?_
          refine lv_iload_n hx hb dX12_why_124 rfl (lv_at hl 4 rfl) ?_
          obtain ⟨v7, hv7, h⟩ := ob h
          refine m_ald X hP hv7 dX12_why_125 ?_
          refine lv_iload_n hx hb dX12_why_126 rfl (lv_at hl 2 rfl) ?_
          obtain ⟨v8, hv8, h⟩ := ob h
          refine cl_bit X hP hv8 ⟨Nat.le_of_ble_eq_true rfl, Nat.le_of_ble_eq_true rfl⟩ hl.1 (Nat.le_of_ble_eq_true rfl) dX12_why_127 ?_
          refine lv_if_ne (tgt := 149) hx hb dX12_why_130 rfl (fun hc => ?_) (fun hc => ?_)
          · have h := ine hc h
            refine lv_aload_n hx hb dX12_why_149 rfl (lv_at hl 1 rfl) ?_
            refine lv_iload_n hx hb dX12_why_150 rfl (lv_at hl 4 rfl) ?_
            refine lv_iload_n hx hb dX12_why_151 rfl (lv_at hl 2 rfl) ?_
            refine lv_iconst (v := (0:Int32)) hx hb dX12_why_152 (by decide) ?_
            refine lv_iconst (v := (0:Int32)) hx hb dX12_why_153 (by decide) ?_
            obtain ⟨v9, hv9, h⟩ := ob h
            refine cl_fits X hP hv9 ⟨Nat.le_of_ble_eq_true rfl, Nat.le_of_ble_eq_true rfl⟩ hl.1 (Nat.le_of_ble_eq_true rfl) dX12_why_154 ?_
            refine lv_if_ne (tgt := 163) hx hb dX12_why_157 rfl (fun hc => ?_) (fun hc => ?_)
            · have h := ine hc h
              refine lv_aload_n hx hb dX12_why_163 rfl (lv_at hl 1 rfl) ?_
              refine lv_iload_n hx hb dX12_why_164 rfl (lv_at hl 2 rfl) ?_
              refine lv_iload_n hx hb dX12_why_165 rfl (lv_at hl 3 rfl) ?_
              refine lv_iconst (v := (3:Int32)) hx hb dX12_why_166 (by decide) ?_
              refine lv_iconst (v := (0:Int32)) hx hb dX12_why_167 (by decide) ?_
              refine lv_iconst (v := (0:Int32)) hx hb dX12_why_168 (by decide) ?_
              obtain ⟨v10, hv10, h⟩ := ob h
              refine cl_winner X hP hv10 ⟨Nat.le_of_ble_eq_true rfl, Nat.le_of_ble_eq_true rfl⟩ hl.1 (Nat.le_of_ble_eq_true rfl) dX12_why_169 ?_
              refine lv_istore hx hb dX12_why_172 hl (Nat.le_of_ble_eq_true rfl) rfl (fun ls (hl : lv_has ls 6 [(5, .int v10), (4, .int (((16:Int32) * x3) + x2)), (0, .ref mb), (1, .int x1), (2, .int x2), (3, .int x3)]) => ?_)
              refine lv_iload hx hb dX12_why_174 (lv_at hl 0 rfl) ?_
              refine lv_iload hx hb dX12_why_176 (lv_at hl 1 rfl) ?_
              refine lv_icmp_ne (tgt := 185) hx hb dX12_why_178 rfl (fun hc => ?_) (fun hc => ?_)
              · have h := ine hc h
                refine lv_aload_n hx hb dX12_why_185 rfl (lv_at hl 2 rfl) ?_
                refine lv_iload hx hb dX12_why_186 (lv_at hl 0 rfl) ?_
                refine lv_iload hx hb dX12_why_188 (lv_at hl 1 rfl) ?_
                obtain ⟨v11, hv11, h⟩ := ob h
                refine cl_against X hP hv11 ⟨Nat.le_of_ble_eq_true rfl, Nat.le_of_ble_eq_true rfl⟩ hl.1 (Nat.le_of_ble_eq_true rfl) dX12_why_190 ?_
                exact N_why_193 X hP hF (lv_sub hl [2] rfl) h
              · have h := ip hc h
                refine lv_iconst (v := (0:Int32)) hx hb dX12_why_181 (by decide) ?_
                refine lv_goto (tgt := 193) hx hb dX12_why_182 rfl ?_
                exact N_why_193 X hP hF (lv_sub hl [2] rfl) h
            · have h := ip hc h
              refine lv_bipush (v := (7:Int32)) hx hb dX12_why_160 (by decide) ?_
              obtain rfl := sj h
              exact m_wi X hP hF dX12_why_162
          · have h := ip hc h
            exact N_why_133 X hP hF (lv_sub hl [1, 4] rfl) h
      · have h := ip hc h
        exact N_why_93 X hP hF (lv_sub hl [1, 0] rfl) h
  · have h := ine hc h
    refine lv_iconst (v := ((-1):Int32)) hx hb dX12_why_55 (by decide) ?_
    obtain rfl := sj h
    exact m_wi X hP hF dX12_why_56
set_option maxRecDepth 20000 in
set_option maxHeartbeats 4000000 in
theorem N_why_17 {p : Program} {l : Launch} {e : Env} {s : State} {m : MethodId} {args : Array Value} {below : List Frame} {meth : Method} {c : Code} {D : mD} {mb : Nat}   {x1 : Int32} {x2 : Int32} {x3 : Int32} {σ : mS} {H : Heap} {locs : List Loc} {ls : Array Slot} {q : Int32 × mS} (X : mX p s m args meth c cX12_why 6 (some .int) D) (hP : mP D mb σ H) (hF : mF mb s.heap H locs)  (hl : lv_has ls 6 [(0, .ref mb), (1, .int x1), (2, .int x2), (3, .int x3)]) (h : f_why_17  x1 x2 x3 σ = some q) : mWw p l e 16 408 s m args below meth c D mb q.2 (some (.int q.1)) H locs (F0 m 17 ls [.ref mb]) := by
  have hx := X.1
  have hb := X.2.1
  have hown := X.2.2.2.1
  have hts := X.2.2.2.2.1
  have h : (f_why_49 (x1) (x2) (x3) ((1:Int32)) σ) = some q := h
  refine lv_iconst (v := (1:Int32)) hx hb dX12_why_17 (by decide) ?_
  refine lv_goto (tgt := 49) hx hb dX12_why_18 rfl ?_
  exact N_why_49 X hP hF (lv_sub hl [0, 1, 2, 3] rfl) h
set_option maxRecDepth 20000 in
set_option maxHeartbeats 4000000 in
theorem K_why (l : Launch) (D : mD) (mb : Nat) (σ : mS) (x1 : Int32) (x2 : Int32) (x3 : Int32) {q : Int32 × mS} (h : f_why x1 x2 x3 σ = some q) : Met l yX12_why (Cond.code yX12_why cX12_why 6 (some .int) :: BG) (rM 16 408) (mPc D mb σ [.int x1, .int x2, .int x3]) (mQw D mb q.2 (some (.int q.1))) 0 0 (mReg mb) := by
  refine Met.ofW (cc := cX12_why) (maxL := 6) (ret := (some .int)) (by decide) rfl ?_
  intro p e s m args below meth c s₁ B hml hv
  obtain ⟨rfl, hP, hK⟩ := hv
  have X := mX_of B hml rfl hK
  have hx := X.1
  have hb := X.2.1
  have hown := X.2.2.2.1
  have hts := X.2.2.2.2.1
  have hl := lv_entry (.ref mb :: [.int x1, .int x2, .int x3]) (n := 6) (Nat.le_of_ble_eq_true rfl)
  rw [lg_entry_eq]
  generalize (lg_sl (.ref mb :: [.int x1, .int x2, .int x3]) ++ List.replicate (6 - (lg_sl (.ref mb :: [.int x1, .int x2, .int x3])).length) Slot.unset).toArray = ls at hl ⊢
  have hl : lv_has ls 6 [(0, .ref mb), (1, .int x1), (2, .int x2), (3, .int x3)] := hl
  have hF : mF mb s.heap s.heap [] := mF.rf
  show mWw p l e 16 408 s m (Value.ref mb :: [.int x1, .int x2, .int x3]).toArray below meth c D mb q.2 (some (.int q.1)) s.heap [] (F0 m 0 ls [])
  have h : ((f_isElement (x1) σ).bind (fun v1 => if v1 = (0:Int32) then (f_why_17 (x1) (x2) (x3) σ) else ((f_isRule (x3) σ).bind (fun v2 => if v2 = (0:Int32) then (f_why_17 (x1) (x2) (x3) σ) else ((f_in (x2) ((0:Int32)) ((14:Int32))).bind (fun v3 => if v3 = (0:Int32) then (f_why_49 (x1) (x2) (x3) ((2:Int32)) σ) else ((f_inDoc (x1) σ).bind (fun v4 => if v4 = (0:Int32) then (f_why_49 (x1) (x2) (x3) ((3:Int32)) σ) else (f_why_49 (x1) (x2) (x3) ((0:Int32)) σ))))))))) = some q := h
  refine lv_aload_n hx hb dX12_why_0 rfl (lv_at hl 0 rfl) ?_
  refine lv_aload_n hx hb dX12_why_1 rfl (lv_at hl 0 rfl) ?_
  refine lv_iload_n hx hb dX12_why_2 rfl (lv_at hl 1 rfl) ?_
  obtain ⟨v1, hv1, h⟩ := ob h
  refine cl_isElement X hP hv1 ⟨Nat.le_of_ble_eq_true rfl, Nat.le_of_ble_eq_true rfl⟩ hl.1 (Nat.le_of_ble_eq_true rfl) dX12_why_3 ?_
  refine lv_if_eq (tgt := 17) hx hb dX12_why_6 rfl (fun hc => ?_) (fun hc => ?_)
  · have h := ip hc h
    exact N_why_17 X hP hF (lv_sub hl [0, 1, 2, 3] rfl) h
  · have h := ine hc h
    refine lv_aload_n hx hb dX12_why_9 rfl (lv_at hl 0 rfl) ?_
    refine lv_iload_n hx hb dX12_why_10 rfl (lv_at hl 3 rfl) ?_
    obtain ⟨v2, hv2, h⟩ := ob h
    refine cl_isRule X hP hv2 ⟨Nat.le_of_ble_eq_true rfl, Nat.le_of_ble_eq_true rfl⟩ hl.1 (Nat.le_of_ble_eq_true rfl) dX12_why_11 ?_
    refine lv_if_ne (tgt := 21) hx hb dX12_why_14 rfl (fun hc => ?_) (fun hc => ?_)
    · have h := ine hc h
      refine lv_aload_n hx hb dX12_why_21 rfl (lv_at hl 0 rfl) ?_
      refine lv_iload_n hx hb dX12_why_22 rfl (lv_at hl 2 rfl) ?_
      refine lv_iconst (v := (0:Int32)) hx hb dX12_why_23 (by decide) ?_
      refine lv_bipush (v := (14:Int32)) hx hb dX12_why_24 (by decide) ?_
      obtain ⟨v3, hv3, h⟩ := ob h
      refine cl_in X hP hv3 ⟨Nat.le_of_ble_eq_true rfl, Nat.le_of_ble_eq_true rfl⟩ hl.1 (Nat.le_of_ble_eq_true rfl) dX12_why_26 ?_
      refine lv_if_ne (tgt := 36) hx hb dX12_why_29 rfl (fun hc => ?_) (fun hc => ?_)
      · have h := ine hc h
        refine lv_aload_n hx hb dX12_why_36 rfl (lv_at hl 0 rfl) ?_
        refine lv_iload_n hx hb dX12_why_37 rfl (lv_at hl 1 rfl) ?_
        obtain ⟨v4, hv4, h⟩ := ob h
        refine cl_inDoc X hP hv4 ⟨Nat.le_of_ble_eq_true rfl, Nat.le_of_ble_eq_true rfl⟩ hl.1 (Nat.le_of_ble_eq_true rfl) dX12_why_38 ?_
        refine lv_if_ne (tgt := 48) hx hb dX12_why_41 rfl (fun hc => ?_) (fun hc => ?_)
        · have h := ine hc h
          refine lv_iconst (v := (0:Int32)) hx hb dX12_why_48 (by decide) ?_
          exact N_why_49 X hP hF (lv_sub hl [0, 1, 2, 3] rfl) h
        · have h := ip hc h
          refine lv_iconst (v := (3:Int32)) hx hb dX12_why_44 (by decide) ?_
          refine lv_goto (tgt := 49) hx hb dX12_why_45 rfl ?_
          exact N_why_49 X hP hF (lv_sub hl [0, 1, 2, 3] rfl) h
      · have h := ip hc h
        refine lv_iconst (v := (2:Int32)) hx hb dX12_why_32 (by decide) ?_
        refine lv_goto (tgt := 49) hx hb dX12_why_33 rfl ?_
        exact N_why_49 X hP hF (lv_sub hl [0, 1, 2, 3] rfl) h
    · have h := ip hc h
      exact N_why_17 X hP hF (lv_sub hl [0, 1, 2, 3] rfl) h
-- valueAnew(II)I
def f_valueAnew_59  : Nat → Int32 → Int32 → Int32 → mS → Option (Int32 × mS)
  | 0, _, _, _, _ => none
  | n + 1, x1, x2, x3, σ => if (σ.2 76) ≤ x3 then ((f_told (x1) (x2) ((1:Int32)) σ).bind (fun v1 => some (v1, σ))) else ((rd σ 75 x3).bind (fun v2 => (f_style (v2) ((1:Int32)) ((1:Int32)) ((0:Int32)) σ).bind (fun v3 => (rd v3 75 x3).bind (fun v4 => (rd v3 75 x3).bind (fun v5 => (f_sized (v5) ((1:Int32)) v3).bind (fun v6 => (wr v6.2 46 ((30:Int32) + v4) v6.1).bind (fun s7 => f_valueAnew_59 n (x1) (x2) ((x3 + (1:Int32))) s7)))))))
def f_valueAnew_41  (x1 : Int32) (x2 : Int32) (y1 : Int32) (σ : mS) : Option (Int32 × mS) := (f_holds (y1) σ).bind (fun v1 => if v1.1 = (0:Int32) then ((f_ordered  v1.2).bind (fun v2 => (f_hits  v2).bind (fun v3 => f_valueAnew_59 4000 (x1) (x2) ((0:Int32)) v3))) else (some (((-1):Int32), v1.2)))
def f_valueAnew (x1 : Int32) (x2 : Int32) (σ : mS) : Option (Int32 × mS) := (f_isElement (x1) σ).bind (fun v1 => if v1 = (0:Int32) then (f_valueAnew_41 (x1) (x2) ((1:Int32)) σ) else ((f_in (x2) ((0:Int32)) ((14:Int32))).bind (fun v2 => if v2 = (0:Int32) then (f_valueAnew_41 (x1) (x2) ((2:Int32)) σ) else ((f_inDoc (x1) σ).bind (fun v3 => if v3 = (0:Int32) then (f_valueAnew_41 (x1) (x2) ((3:Int32)) σ) else (f_valueAnew_41 (x1) (x2) ((0:Int32)) σ))))))
set_option maxRecDepth 20000 in
set_option maxHeartbeats 4000000 in
theorem N_valueAnew_59 {p : Program} {l : Launch} {e : Env} {s : State} {m : MethodId} {args : Array Value} {below : List Frame} {meth : Method} {c : Code} {D : mD} {mb : Nat}  {n : Nat} {x1 : Int32} {x2 : Int32} {x3 : Int32} {σ : mS} {H : Heap} {locs : List Loc} {ls : Array Slot} {q : Int32 × mS} (X : mX p s m args meth c cX12_valueAnew 4 (some .int) D) (hP : mP D mb σ H) (hF : mF mb s.heap H locs)  (hl : lv_has ls 4 [(0, .ref mb), (1, .int x1), (2, .int x2), (3, .int x3)]) (h : f_valueAnew_59  n x1 x2 x3 σ = some q) : mWw p l e 13 333 s m args below meth c D mb q.2 (some (.int q.1)) H locs (F0 m 59 ls []) := by
  have hx := X.1
  have hb := X.2.1
  have hown := X.2.2.2.1
  have hts := X.2.2.2.2.1
  induction n generalizing x1 x2 x3 σ H locs ls with
  | zero => exact absurd (show none = some q from h) (by simp)
  | succ n ih =>
    have h : (if (σ.2 76) ≤ x3 then ((f_told (x1) (x2) ((1:Int32)) σ).bind (fun v1 => some (v1, σ))) else ((rd σ 75 x3).bind (fun v2 => (f_style (v2) ((1:Int32)) ((1:Int32)) ((0:Int32)) σ).bind (fun v3 => (rd v3 75 x3).bind (fun v4 => (rd v3 75 x3).bind (fun v5 => (f_sized (v5) ((1:Int32)) v3).bind (fun v6 => (wr v6.2 46 ((30:Int32) + v4) v6.1).bind (fun s7 => f_valueAnew_59 n (x1) (x2) ((x3 + (1:Int32))) s7)))))))) = some q := h
    refine lv_iload_n hx hb dX12_valueAnew_59 rfl (lv_at hl 3 rfl) ?_
    refine lv_aload_n hx hb dX12_valueAnew_60 rfl (lv_at hl 0 rfl) ?_
    refine mg_many X hP dX12_valueAnew_61 ?_
    refine lv_icmp_ge (tgt := 111) hx hb dX12_valueAnew_64 rfl (fun hc => ?_) (fun hc => ?_)
    · have h := ip hc h
      refine lv_aload_n hx hb dX12_valueAnew_111 rfl (lv_at hl 0 rfl) ?_
      refine lv_iload_n hx hb dX12_valueAnew_112 rfl (lv_at hl 1 rfl) ?_
      refine lv_iload_n hx hb dX12_valueAnew_113 rfl (lv_at hl 2 rfl) ?_
      refine lv_iconst (v := (1:Int32)) hx hb dX12_valueAnew_114 (by decide) ?_
      obtain ⟨v1, hv1, h⟩ := ob h
      refine cl_told X hP hv1 ⟨Nat.le_of_ble_eq_true rfl, Nat.le_of_ble_eq_true rfl⟩ hl.1 (Nat.le_of_ble_eq_true rfl) dX12_valueAnew_115 ?_
      obtain rfl := sj h
      exact m_wi X hP hF dX12_valueAnew_118
    · have h := ine hc h
      refine lv_aload_n hx hb dX12_valueAnew_67 rfl (lv_at hl 0 rfl) ?_
      refine lv_aload_n hx hb dX12_valueAnew_68 rfl (lv_at hl 0 rfl) ?_
      refine mg_order X hP dX12_valueAnew_69 ?_
      refine lv_iload_n hx hb dX12_valueAnew_72 rfl (lv_at hl 3 rfl) ?_
      obtain ⟨v2, hv2, h⟩ := ob h
      refine m_ald X hP hv2 dX12_valueAnew_73 ?_
      refine lv_iconst (v := (1:Int32)) hx hb dX12_valueAnew_74 (by decide) ?_
      refine lv_iconst (v := (1:Int32)) hx hb dX12_valueAnew_75 (by decide) ?_
      refine lv_iconst (v := (0:Int32)) hx hb dX12_valueAnew_76 (by decide) ?_
      obtain ⟨v3, hv3, h⟩ := ob h
      refine cl_style X hP hF hv3 ⟨Nat.le_of_ble_eq_true rfl, Nat.le_of_ble_eq_true rfl⟩ hl.1 (Nat.le_of_ble_eq_true rfl) dX12_valueAnew_77 (fun H locs hP hF => ?_)
      refine lv_aload_n hx hb dX12_valueAnew_80 rfl (lv_at hl 0 rfl) ?_
      refine mg_sz X hP dX12_valueAnew_81 ?_
      refine lv_bipush (v := (30:Int32)) hx hb dX12_valueAnew_84 (by decide) ?_
      refine lv_aload_n hx hb dX12_valueAnew_86 rfl (lv_at hl 0 rfl) ?_
      refine mg_order X hP dX12_valueAnew_87 ?_
      refine lv_iload_n hx hb dX12_valueAnew_90 rfl (lv_at hl 3 rfl) ?_
      obtain ⟨v4, hv4, h⟩ := ob h
      refine m_ald X hP hv4 dX12_valueAnew_91 ?_
      refine lv_iadd hx hb dX12_valueAnew_92 ?_
      refine lv_aload_n hx hb dX12_valueAnew_93 rfl (lv_at hl 0 rfl) ?_
      refine lv_aload_n hx hb dX12_valueAnew_94 rfl (lv_at hl 0 rfl) ?_
      refine mg_order X hP dX12_valueAnew_95 ?_
      refine lv_iload_n hx hb dX12_valueAnew_98 rfl (lv_at hl 3 rfl) ?_
      obtain ⟨v5, hv5, h⟩ := ob h
      refine m_ald X hP hv5 dX12_valueAnew_99 ?_
      refine lv_iconst (v := (1:Int32)) hx hb dX12_valueAnew_100 (by decide) ?_
      obtain ⟨v6, hv6, h⟩ := ob h
      refine cl_sized X hP hF hv6 ⟨Nat.le_of_ble_eq_true rfl, Nat.le_of_ble_eq_true rfl⟩ hl.1 (Nat.le_of_ble_eq_true rfl) dX12_valueAnew_101 (fun H locs hP hF => ?_)
      obtain ⟨s7, hs7, h⟩ := ob h
      refine m_ast X hP hF hs7 dX12_valueAnew_104 (fun H locs hP hF => ?_)
      refine lv_iinc (v := (x3 + (1:Int32))) hx hb dX12_valueAnew_105 hl (k := 3) rfl rfl (Nat.le_of_ble_eq_true rfl) rfl (fun ls (hl : lv_has ls 4 [(3, .int (x3 + (1:Int32))), (0, .ref mb), (1, .int x1), (2, .int x2)]) => ?_)
      refine lv_goto (tgt := 59) hx hb dX12_valueAnew_108 rfl ?_
      exact ih hP hF (lv_sub hl [1, 2, 3, 0] rfl) h
set_option maxRecDepth 20000 in
set_option maxHeartbeats 4000000 in
theorem N_valueAnew_41 {p : Program} {l : Launch} {e : Env} {s : State} {m : MethodId} {args : Array Value} {below : List Frame} {meth : Method} {c : Code} {D : mD} {mb : Nat}   {x1 : Int32} {x2 : Int32} {y1 : Int32} {σ : mS} {H : Heap} {locs : List Loc} {ls : Array Slot} {q : Int32 × mS} (X : mX p s m args meth c cX12_valueAnew 4 (some .int) D) (hP : mP D mb σ H) (hF : mF mb s.heap H locs)  (hl : lv_has ls 4 [(0, .ref mb), (1, .int x1), (2, .int x2)]) (h : f_valueAnew_41  x1 x2 y1 σ = some q) : mWw p l e 13 333 s m args below meth c D mb q.2 (some (.int q.1)) H locs (F0 m 41 ls [.int y1, .ref mb]) := by
  have hx := X.1
  have hb := X.2.1
  have hown := X.2.2.2.1
  have hts := X.2.2.2.2.1
  have h : ((f_holds (y1) σ).bind (fun v1 => if v1.1 = (0:Int32) then ((f_ordered  v1.2).bind (fun v2 => (f_hits  v2).bind (fun v3 => f_valueAnew_59 4000 (x1) (x2) ((0:Int32)) v3))) else (some (((-1):Int32), v1.2)))) = some q := h
  obtain ⟨v1, hv1, h⟩ := ob h
  refine cl_holds X hP hF hv1 ⟨Nat.le_of_ble_eq_true rfl, Nat.le_of_ble_eq_true rfl⟩ hl.1 (Nat.le_of_ble_eq_true rfl) dX12_valueAnew_41 (fun H locs hP hF => ?_)
  refine lv_if_eq (tgt := 49) hx hb dX12_valueAnew_44 rfl (fun hc => ?_) (fun hc => ?_)
  · have h := ip hc h
    refine lv_aload_n hx hb dX12_valueAnew_49 rfl (lv_at hl 0 rfl) ?_
    obtain ⟨v2, hv2, h⟩ := ob h
    refine cl_ordered X hP hF hv2 ⟨Nat.le_of_ble_eq_true rfl, Nat.le_of_ble_eq_true rfl⟩ hl.1 (Nat.le_of_ble_eq_true rfl) dX12_valueAnew_50 (fun H locs hP hF => ?_)
    refine lv_aload_n hx hb dX12_valueAnew_53 rfl (lv_at hl 0 rfl) ?_
    obtain ⟨v3, hv3, h⟩ := ob h
    refine cl_hits X hP hF hv3 ⟨Nat.le_of_ble_eq_true rfl, Nat.le_of_ble_eq_true rfl⟩ hl.1 (Nat.le_of_ble_eq_true rfl) dX12_valueAnew_54 (fun H locs hP hF => ?_)
    refine lv_iconst (v := (0:Int32)) hx hb dX12_valueAnew_57 (by decide) ?_
    refine lv_istore_n hx hb dX12_valueAnew_58 rfl hl (Nat.le_of_ble_eq_true rfl) rfl (fun ls (hl : lv_has ls 4 [(3, .int (0:Int32)), (0, .ref mb), (1, .int x1), (2, .int x2)]) => ?_)
    exact N_valueAnew_59 X hP hF (lv_sub hl [1, 2, 3, 0] rfl) h
  · have h := ine hc h
    refine lv_iconst (v := ((-1):Int32)) hx hb dX12_valueAnew_47 (by decide) ?_
    obtain rfl := sj h
    exact m_wi X hP hF dX12_valueAnew_48
set_option maxRecDepth 20000 in
set_option maxHeartbeats 4000000 in
theorem K_valueAnew (l : Launch) (D : mD) (mb : Nat) (σ : mS) (x1 : Int32) (x2 : Int32) {q : Int32 × mS} (h : f_valueAnew x1 x2 σ = some q) : Met l yX12_valueAnew (Cond.code yX12_valueAnew cX12_valueAnew 4 (some .int) :: BG) (rM 13 333) (mPc D mb σ [.int x1, .int x2]) (mQw D mb q.2 (some (.int q.1))) 0 0 (mReg mb) := by
  refine Met.ofW (cc := cX12_valueAnew) (maxL := 4) (ret := (some .int)) (by decide) rfl ?_
  intro p e s m args below meth c s₁ B hml hv
  obtain ⟨rfl, hP, hK⟩ := hv
  have X := mX_of B hml rfl hK
  have hx := X.1
  have hb := X.2.1
  have hown := X.2.2.2.1
  have hts := X.2.2.2.2.1
  have hl := lv_entry (.ref mb :: [.int x1, .int x2]) (n := 4) (Nat.le_of_ble_eq_true rfl)
  rw [lg_entry_eq]
  generalize (lg_sl (.ref mb :: [.int x1, .int x2]) ++ List.replicate (4 - (lg_sl (.ref mb :: [.int x1, .int x2])).length) Slot.unset).toArray = ls at hl ⊢
  have hl : lv_has ls 4 [(0, .ref mb), (1, .int x1), (2, .int x2)] := hl
  have hF : mF mb s.heap s.heap [] := mF.rf
  show mWw p l e 13 333 s m (Value.ref mb :: [.int x1, .int x2]).toArray below meth c D mb q.2 (some (.int q.1)) s.heap [] (F0 m 0 ls [])
  have h : ((f_isElement (x1) σ).bind (fun v1 => if v1 = (0:Int32) then (f_valueAnew_41 (x1) (x2) ((1:Int32)) σ) else ((f_in (x2) ((0:Int32)) ((14:Int32))).bind (fun v2 => if v2 = (0:Int32) then (f_valueAnew_41 (x1) (x2) ((2:Int32)) σ) else ((f_inDoc (x1) σ).bind (fun v3 => if v3 = (0:Int32) then (f_valueAnew_41 (x1) (x2) ((3:Int32)) σ) else (f_valueAnew_41 (x1) (x2) ((0:Int32)) σ))))))) = some q := h
  refine lv_aload_n hx hb dX12_valueAnew_0 rfl (lv_at hl 0 rfl) ?_
  refine lv_aload_n hx hb dX12_valueAnew_1 rfl (lv_at hl 0 rfl) ?_
  refine lv_iload_n hx hb dX12_valueAnew_2 rfl (lv_at hl 1 rfl) ?_
  obtain ⟨v1, hv1, h⟩ := ob h
  refine cl_isElement X hP hv1 ⟨Nat.le_of_ble_eq_true rfl, Nat.le_of_ble_eq_true rfl⟩ hl.1 (Nat.le_of_ble_eq_true rfl) dX12_valueAnew_3 ?_
  refine lv_if_ne (tgt := 13) hx hb dX12_valueAnew_6 rfl (fun hc => ?_) (fun hc => ?_)
  · have h := ine hc h
    refine lv_aload_n hx hb dX12_valueAnew_13 rfl (lv_at hl 0 rfl) ?_
    refine lv_iload_n hx hb dX12_valueAnew_14 rfl (lv_at hl 2 rfl) ?_
    refine lv_iconst (v := (0:Int32)) hx hb dX12_valueAnew_15 (by decide) ?_
    refine lv_bipush (v := (14:Int32)) hx hb dX12_valueAnew_16 (by decide) ?_
    obtain ⟨v2, hv2, h⟩ := ob h
    refine cl_in X hP hv2 ⟨Nat.le_of_ble_eq_true rfl, Nat.le_of_ble_eq_true rfl⟩ hl.1 (Nat.le_of_ble_eq_true rfl) dX12_valueAnew_18 ?_
    refine lv_if_ne (tgt := 28) hx hb dX12_valueAnew_21 rfl (fun hc => ?_) (fun hc => ?_)
    · have h := ine hc h
      refine lv_aload_n hx hb dX12_valueAnew_28 rfl (lv_at hl 0 rfl) ?_
      refine lv_iload_n hx hb dX12_valueAnew_29 rfl (lv_at hl 1 rfl) ?_
      obtain ⟨v3, hv3, h⟩ := ob h
      refine cl_inDoc X hP hv3 ⟨Nat.le_of_ble_eq_true rfl, Nat.le_of_ble_eq_true rfl⟩ hl.1 (Nat.le_of_ble_eq_true rfl) dX12_valueAnew_30 ?_
      refine lv_if_ne (tgt := 40) hx hb dX12_valueAnew_33 rfl (fun hc => ?_) (fun hc => ?_)
      · have h := ine hc h
        refine lv_iconst (v := (0:Int32)) hx hb dX12_valueAnew_40 (by decide) ?_
        exact N_valueAnew_41 X hP hF (lv_sub hl [0, 1, 2] rfl) h
      · have h := ip hc h
        refine lv_iconst (v := (3:Int32)) hx hb dX12_valueAnew_36 (by decide) ?_
        refine lv_goto (tgt := 41) hx hb dX12_valueAnew_37 rfl ?_
        exact N_valueAnew_41 X hP hF (lv_sub hl [0, 1, 2] rfl) h
    · have h := ip hc h
      refine lv_iconst (v := (2:Int32)) hx hb dX12_valueAnew_24 (by decide) ?_
      refine lv_goto (tgt := 41) hx hb dX12_valueAnew_25 rfl ?_
      exact N_valueAnew_41 X hP hF (lv_sub hl [0, 1, 2] rfl) h
  · have h := ip hc h
    refine lv_iconst (v := (1:Int32)) hx hb dX12_valueAnew_9 (by decide) ?_
    refine lv_goto (tgt := 41) hx hb dX12_valueAnew_10 rfl ?_
    exact N_valueAnew_41 X hP hF (lv_sub hl [0, 1, 2] rfl) h
-- marked()I
def f_marked  (σ : mS) : Option (Int32) := (f_docMask  σ).bind (fun v1 => some ((σ.2 49) &&& v1))
set_option maxRecDepth 20000 in
set_option maxHeartbeats 4000000 in
theorem K_marked (l : Launch) (D : mD) (mb : Nat) (σ : mS)  {r : Int32} (h : f_marked  σ = some r) : Met l yX12_marked (Cond.code yX12_marked cX12_marked 1 (some .int) :: BG) (rM 4 88) (mPc D mb σ []) (mQr (some (.int r))) 0 0 (fun _ => False) := by
  refine Met.ofW (cc := cX12_marked) (maxL := 1) (ret := (some .int)) (by decide) rfl ?_
  intro p e s m args below meth c s₁ B hml hv
  obtain ⟨rfl, hP, hK⟩ := hv
  have X := mX_of B hml rfl hK
  have hx := X.1
  have hb := X.2.1
  have hown := X.2.2.2.1
  have hts := X.2.2.2.2.1
  have hl := lv_entry (.ref mb :: []) (n := 1) (Nat.le_of_ble_eq_true rfl)
  rw [lg_entry_eq]
  generalize (lg_sl (.ref mb :: []) ++ List.replicate (1 - (lg_sl (.ref mb :: [])).length) Slot.unset).toArray = ls at hl ⊢
  have hl : lv_has ls 1 [(0, .ref mb)] := hl
  show mWr p l e 4 88 s m (Value.ref mb :: []).toArray below meth c (some (.int r)) (F0 m 0 ls [])
  have h : ((f_docMask  σ).bind (fun v1 => some ((σ.2 49) &&& v1))) = some r := h
  refine lv_aload_n hx hb dX12_marked_0 rfl (lv_at hl 0 rfl) ?_
  refine mg_mk X hP dX12_marked_1 ?_
  refine lv_aload_n hx hb dX12_marked_4 rfl (lv_at hl 0 rfl) ?_
  obtain ⟨v1, hv1, h⟩ := ob h
  refine cl_docMask X hP hv1 ⟨Nat.le_of_ble_eq_true rfl, Nat.le_of_ble_eq_true rfl⟩ hl.1 (Nat.le_of_ble_eq_true rfl) dX12_marked_5 ?_
  refine lv_iand hx hb dX12_marked_8 ?_
  obtain rfl := sj h
  exact m_ri X dX12_marked_9
-- flushes()I
def f_flushes  (σ : mS) : Option (Int32) := some (σ.2 51)
set_option maxRecDepth 20000 in
set_option maxHeartbeats 4000000 in
theorem K_flushes (l : Launch) (D : mD) (mb : Nat) (σ : mS)  {r : Int32} (h : f_flushes  σ = some r) : Met l yX12_flushes (Cond.code yX12_flushes cX12_flushes 1 (some .int) :: BG) (rM 0 0) (mPc D mb σ []) (mQr (some (.int r))) 0 0 (fun _ => False) := by
  refine Met.ofW (cc := cX12_flushes) (maxL := 1) (ret := (some .int)) (by decide) rfl ?_
  intro p e s m args below meth c s₁ B hml hv
  obtain ⟨rfl, hP, hK⟩ := hv
  have X := mX_of B hml rfl hK
  have hx := X.1
  have hb := X.2.1
  have hown := X.2.2.2.1
  have hts := X.2.2.2.2.1
  have hl := lv_entry (.ref mb :: []) (n := 1) (Nat.le_of_ble_eq_true rfl)
  rw [lg_entry_eq]
  generalize (lg_sl (.ref mb :: []) ++ List.replicate (1 - (lg_sl (.ref mb :: [])).length) Slot.unset).toArray = ls at hl ⊢
  have hl : lv_has ls 1 [(0, .ref mb)] := hl
  show mWr p l e 0 0 s m (Value.ref mb :: []).toArray below meth c (some (.int r)) (F0 m 0 ls [])
  have h : (some (σ.2 51)) = some r := h
  refine lv_aload_n hx hb dX12_flushes_0 rfl (lv_at hl 0 rfl) ?_
  refine mg_flushes X hP dX12_flushes_1 ?_
  obtain rfl := sj h
  exact m_ri X dX12_flushes_4
-- restyled()I
def f_restyled  (σ : mS) : Option (Int32) := some (σ.2 52)
set_option maxRecDepth 20000 in
set_option maxHeartbeats 4000000 in
theorem K_restyled (l : Launch) (D : mD) (mb : Nat) (σ : mS)  {r : Int32} (h : f_restyled  σ = some r) : Met l yX12_restyled (Cond.code yX12_restyled cX12_restyled 1 (some .int) :: BG) (rM 0 0) (mPc D mb σ []) (mQr (some (.int r))) 0 0 (fun _ => False) := by
  refine Met.ofW (cc := cX12_restyled) (maxL := 1) (ret := (some .int)) (by decide) rfl ?_
  intro p e s m args below meth c s₁ B hml hv
  obtain ⟨rfl, hP, hK⟩ := hv
  have X := mX_of B hml rfl hK
  have hx := X.1
  have hb := X.2.1
  have hown := X.2.2.2.1
  have hts := X.2.2.2.2.1
  have hl := lv_entry (.ref mb :: []) (n := 1) (Nat.le_of_ble_eq_true rfl)
  rw [lg_entry_eq]
  generalize (lg_sl (.ref mb :: []) ++ List.replicate (1 - (lg_sl (.ref mb :: [])).length) Slot.unset).toArray = ls at hl ⊢
  have hl : lv_has ls 1 [(0, .ref mb)] := hl
  show mWr p l e 0 0 s m (Value.ref mb :: []).toArray below meth c (some (.int r)) (F0 m 0 ls [])
  have h : (some (σ.2 52)) = some r := h
  refine lv_aload_n hx hb dX12_restyled_0 rfl (lv_at hl 0 rfl) ?_
  refine mg_restyled X hP dX12_restyled_1 ?_
  obtain rfl := sj h
  exact m_ri X dX12_restyled_4
-- shared()I
def f_shared  (σ : mS) : Option (Int32) := some (σ.2 53)
set_option maxRecDepth 20000 in
set_option maxHeartbeats 4000000 in
theorem K_shared (l : Launch) (D : mD) (mb : Nat) (σ : mS)  {r : Int32} (h : f_shared  σ = some r) : Met l yX12_shared (Cond.code yX12_shared cX12_shared 1 (some .int) :: BG) (rM 0 0) (mPc D mb σ []) (mQr (some (.int r))) 0 0 (fun _ => False) := by
  refine Met.ofW (cc := cX12_shared) (maxL := 1) (ret := (some .int)) (by decide) rfl ?_
  intro p e s m args below meth c s₁ B hml hv
  obtain ⟨rfl, hP, hK⟩ := hv
  have X := mX_of B hml rfl hK
  have hx := X.1
  have hb := X.2.1
  have hown := X.2.2.2.1
  have hts := X.2.2.2.2.1
  have hl := lv_entry (.ref mb :: []) (n := 1) (Nat.le_of_ble_eq_true rfl)
  rw [lg_entry_eq]
  generalize (lg_sl (.ref mb :: []) ++ List.replicate (1 - (lg_sl (.ref mb :: [])).length) Slot.unset).toArray = ls at hl ⊢
  have hl : lv_has ls 1 [(0, .ref mb)] := hl
  show mWr p l e 0 0 s m (Value.ref mb :: []).toArray below meth c (some (.int r)) (F0 m 0 ls [])
  have h : (some (σ.2 53)) = some r := h
  refine lv_aload_n hx hb dX12_shared_0 rfl (lv_at hl 0 rfl) ?_
  refine mg_shared X hP dX12_shared_1 ?_
  obtain rfl := sj h
  exact m_ri X dX12_shared_4
-- tick(I)I
def f_tick_18  (x1 : Int32) (y1 : Int32) (σ : mS) : Option (Int32 × mS) := (f_holds (y1) σ).bind (fun v1 => if v1.1 = (0:Int32) then (some (((sf v1.2 54 ((v1.2.2 54) + x1)).2 54), (sf v1.2 54 ((v1.2.2 54) + x1)))) else (some (((-1):Int32), v1.2)))
def f_tick (x1 : Int32) (σ : mS) : Option (Int32 × mS) := (f_in (x1) ((1:Int32)) ((1000:Int32))).bind (fun v1 => if v1 = (0:Int32) then (f_tick_18 (x1) ((1:Int32)) σ) else (f_tick_18 (x1) ((0:Int32)) σ))
set_option maxRecDepth 20000 in
set_option maxHeartbeats 4000000 in
theorem N_tick_18 {p : Program} {l : Launch} {e : Env} {s : State} {m : MethodId} {args : Array Value} {below : List Frame} {meth : Method} {c : Code} {D : mD} {mb : Nat}   {x1 : Int32} {y1 : Int32} {σ : mS} {H : Heap} {locs : List Loc} {ls : Array Slot} {q : Int32 × mS} (X : mX p s m args meth c cX12_tick 2 (some .int) D) (hP : mP D mb σ H) (hF : mF mb s.heap H locs)  (hl : lv_has ls 2 [(0, .ref mb), (1, .int x1)]) (h : f_tick_18  x1 y1 σ = some q) : mWw p l e 1 23 s m args below meth c D mb q.2 (some (.int q.1)) H locs (F0 m 18 ls [.int y1, .ref mb]) := by
  have hx := X.1
  have hb := X.2.1
  have hown := X.2.2.2.1
  have hts := X.2.2.2.2.1
  have h : ((f_holds (y1) σ).bind (fun v1 => if v1.1 = (0:Int32) then (some (((sf v1.2 54 ((v1.2.2 54) + x1)).2 54), (sf v1.2 54 ((v1.2.2 54) + x1)))) else (some (((-1):Int32), v1.2)))) = some q := h
  obtain ⟨v1, hv1, h⟩ := ob h
  refine cl_holds X hP hF hv1 ⟨Nat.le_of_ble_eq_true rfl, Nat.le_of_ble_eq_true rfl⟩ hl.1 (Nat.le_of_ble_eq_true rfl) dX12_tick_18 (fun H locs hP hF => ?_)
  refine lv_if_eq (tgt := 26) hx hb dX12_tick_21 rfl (fun hc => ?_) (fun hc => ?_)
  · have h := ip hc h
    refine lv_aload_n hx hb dX12_tick_26 rfl (lv_at hl 0 rfl) ?_
    refine lv_dup hx hb dX12_tick_27 rfl ?_
    refine mg_now X hP dX12_tick_28 ?_
    refine lv_iload_n hx hb dX12_tick_31 rfl (lv_at hl 1 rfl) ?_
    refine lv_iadd hx hb dX12_tick_32 ?_
    refine mp_now X hP hF dX12_tick_33 (fun H locs hP hF => ?_)
    refine lv_aload_n hx hb dX12_tick_36 rfl (lv_at hl 0 rfl) ?_
    refine mg_now X hP dX12_tick_37 ?_
    obtain rfl := sj h
    exact m_wi X hP hF dX12_tick_40
  · have h := ine hc h
    refine lv_iconst (v := ((-1):Int32)) hx hb dX12_tick_24 (by decide) ?_
    obtain rfl := sj h
    exact m_wi X hP hF dX12_tick_25
set_option maxRecDepth 20000 in
set_option maxHeartbeats 4000000 in
theorem K_tick (l : Launch) (D : mD) (mb : Nat) (σ : mS) (x1 : Int32) {q : Int32 × mS} (h : f_tick x1 σ = some q) : Met l yX12_tick (Cond.code yX12_tick cX12_tick 2 (some .int) :: BG) (rM 1 23) (mPc D mb σ [.int x1]) (mQw D mb q.2 (some (.int q.1))) 0 0 (mReg mb) := by
  refine Met.ofW (cc := cX12_tick) (maxL := 2) (ret := (some .int)) (by decide) rfl ?_
  intro p e s m args below meth c s₁ B hml hv
  obtain ⟨rfl, hP, hK⟩ := hv
  have X := mX_of B hml rfl hK
  have hx := X.1
  have hb := X.2.1
  have hown := X.2.2.2.1
  have hts := X.2.2.2.2.1
  have hl := lv_entry (.ref mb :: [.int x1]) (n := 2) (Nat.le_of_ble_eq_true rfl)
  rw [lg_entry_eq]
  generalize (lg_sl (.ref mb :: [.int x1]) ++ List.replicate (2 - (lg_sl (.ref mb :: [.int x1])).length) Slot.unset).toArray = ls at hl ⊢
  have hl : lv_has ls 2 [(0, .ref mb), (1, .int x1)] := hl
  have hF : mF mb s.heap s.heap [] := mF.rf
  show mWw p l e 1 23 s m (Value.ref mb :: [.int x1]).toArray below meth c D mb q.2 (some (.int q.1)) s.heap [] (F0 m 0 ls [])
  have h : ((f_in (x1) ((1:Int32)) ((1000:Int32))).bind (fun v1 => if v1 = (0:Int32) then (f_tick_18 (x1) ((1:Int32)) σ) else (f_tick_18 (x1) ((0:Int32)) σ))) = some q := h
  refine lv_aload_n hx hb dX12_tick_0 rfl (lv_at hl 0 rfl) ?_
  refine lv_aload_n hx hb dX12_tick_1 rfl (lv_at hl 0 rfl) ?_
  refine lv_iload_n hx hb dX12_tick_2 rfl (lv_at hl 1 rfl) ?_
  refine lv_iconst (v := (1:Int32)) hx hb dX12_tick_3 (by decide) ?_
  refine lv_sipush (v := (1000:Int32)) hx hb dX12_tick_4 (by decide) ?_
  obtain ⟨v1, hv1, h⟩ := ob h
  refine cl_in X hP hv1 ⟨Nat.le_of_ble_eq_true rfl, Nat.le_of_ble_eq_true rfl⟩ hl.1 (Nat.le_of_ble_eq_true rfl) dX12_tick_7 ?_
  refine lv_if_eq (tgt := 17) hx hb dX12_tick_10 rfl (fun hc => ?_) (fun hc => ?_)
  · have h := ip hc h
    refine lv_iconst (v := (1:Int32)) hx hb dX12_tick_17 (by decide) ?_
    exact N_tick_18 X hP hF (lv_sub hl [0, 1] rfl) h
  · have h := ine hc h
    refine lv_iconst (v := (0:Int32)) hx hb dX12_tick_13 (by decide) ?_
    refine lv_goto (tgt := 18) hx hb dX12_tick_14 rfl ?_
    exact N_tick_18 X hP hF (lv_sub hl [0, 1] rfl) h
-- animation(IIIZ)V
def f_animation_75   (σ : mS) : Option (mS) := some σ
def f_animation_74  (y1 : Int32) (y2 : Int32) (σ : mS) : Option (mS) := (wr σ 62 y1 y2).bind (fun s1 => f_animation_75 s1)
def f_animation_39  (x1 : Int32) (x2 : Int32) (x3 : Int32) (x4 : Int32) (y1 : Int32) (σ : mS) : Option (mS) := (f_holds (y1) σ).bind (fun v1 => if v1.1 = (0:Int32) then ((wr v1.2 60 x1 x2).bind (fun s2 => (wr s2 61 x1 x3).bind (fun s3 => if x4 = (0:Int32) then (f_animation_74 (x1) ((0:Int32)) s3) else (f_animation_74 (x1) ((1:Int32)) s3)))) else (f_animation_75 v1.2))
def f_animation_38  (x1 : Int32) (x2 : Int32) (x3 : Int32) (x4 : Int32) (σ : mS) : Option (mS) := f_animation_39 (x1) (x2) (x3) (x4) ((1:Int32)) σ
def f_animation (x1 : Int32) (x2 : Int32) (x3 : Int32) (x4 : Int32) (σ : mS) : Option (mS) := (f_in (x1) ((0:Int32)) ((3:Int32))).bind (fun v1 => if v1 = (0:Int32) then (f_animation_38 (x1) (x2) (x3) (x4) σ) else ((f_in (x2) ((1:Int32)) ((1000:Int32))).bind (fun v2 => if v2 = (0:Int32) then (f_animation_38 (x1) (x2) (x3) (x4) σ) else ((f_in (x3) ((1:Int32)) ((100:Int32))).bind (fun v3 => if v3 = (0:Int32) then (f_animation_38 (x1) (x2) (x3) (x4) σ) else (f_animation_39 (x1) (x2) (x3) (x4) ((0:Int32)) σ))))))
set_option maxRecDepth 20000 in
set_option maxHeartbeats 4000000 in
theorem N_animation_75 {p : Program} {l : Launch} {e : Env} {s : State} {m : MethodId} {args : Array Value} {below : List Frame} {meth : Method} {c : Code} {D : mD} {mb : Nat}    {σ : mS} {H : Heap} {locs : List Loc} {ls : Array Slot} {q : mS} (X : mX p s m args meth c cX12_animation 5 none D) (hP : mP D mb σ H) (hF : mF mb s.heap H locs)  (hl : lv_has ls 5 [(0, .ref mb)]) (h : f_animation_75   σ = some q) : mWw p l e 1 23 s m args below meth c D mb q none H locs (F0 m 75 ls []) := by
  have hx := X.1
  have hb := X.2.1
  have hown := X.2.2.2.1
  have hts := X.2.2.2.2.1
  have h : (some σ) = some q := h
  obtain rfl := sj h
  exact m_wv X hP hF dX12_animation_75
set_option maxRecDepth 20000 in
set_option maxHeartbeats 4000000 in
theorem N_animation_74 {p : Program} {l : Launch} {e : Env} {s : State} {m : MethodId} {args : Array Value} {below : List Frame} {meth : Method} {c : Code} {D : mD} {mb : Nat}   {y1 : Int32} {y2 : Int32} {σ : mS} {H : Heap} {locs : List Loc} {ls : Array Slot} {q : mS} (X : mX p s m args meth c cX12_animation 5 none D) (hP : mP D mb σ H) (hF : mF mb s.heap H locs)  (hl : lv_has ls 5 [(0, .ref mb)]) (h : f_animation_74  y1 y2 σ = some q) : mWw p l e 1 23 s m args below meth c D mb q none H locs (F0 m 74 ls [.int y2, .int y1, .ref (mA mb 62)]) := by
  have hx := X.1
  have hb := X.2.1
  have hown := X.2.2.2.1
  have hts := X.2.2.2.2.1
  have h : ((wr σ 62 y1 y2).bind (fun s1 => f_animation_75 s1)) = some q := h
  obtain ⟨s1, hs1, h⟩ := ob h
  refine m_ast X hP hF hs1 dX12_animation_74 (fun H locs hP hF => ?_)
  exact N_animation_75 X hP hF (lv_sub hl [0] rfl) h
set_option maxRecDepth 20000 in
set_option maxHeartbeats 4000000 in
theorem N_animation_39 {p : Program} {l : Launch} {e : Env} {s : State} {m : MethodId} {args : Array Value} {below : List Frame} {meth : Method} {c : Code} {D : mD} {mb : Nat}   {x1 : Int32} {x2 : Int32} {x3 : Int32} {x4 : Int32} {y1 : Int32} {σ : mS} {H : Heap} {locs : List Loc} {ls : Array Slot} {q : mS} (X : mX p s m args meth c cX12_animation 5 none D) (hP : mP D mb σ H) (hF : mF mb s.heap H locs)  (hl : lv_has ls 5 [(0, .ref mb), (1, .int x1), (2, .int x2), (3, .int x3), (4, .int x4)]) (h : f_animation_39  x1 x2 x3 x4 y1 σ = some q) : mWw p l e 1 23 s m args below meth c D mb q none H locs (F0 m 39 ls [.int y1, .ref mb]) := by
  have hx := X.1
  have hb := X.2.1
  have hown := X.2.2.2.1
  have hts := X.2.2.2.2.1
  have h : ((f_holds (y1) σ).bind (fun v1 => if v1.1 = (0:Int32) then ((wr v1.2 60 x1 x2).bind (fun s2 => (wr s2 61 x1 x3).bind (fun s3 => if x4 = (0:Int32) then (f_animation_74 (x1) ((0:Int32)) s3) else (f_animation_74 (x1) ((1:Int32)) s3)))) else (f_animation_75 v1.2))) = some q := h
  obtain ⟨v1, hv1, h⟩ := ob h
  refine cl_holds X hP hF hv1 ⟨Nat.le_of_ble_eq_true rfl, Nat.le_of_ble_eq_true rfl⟩ hl.1 (Nat.le_of_ble_eq_true rfl) dX12_animation_39 (fun H locs hP hF => ?_)
  refine lv_if_ne (tgt := 75) hx hb dX12_animation_42 rfl (fun hc => ?_) (fun hc => ?_)
  · have h := ine hc h
    exact N_animation_75 X hP hF (lv_sub hl [0] rfl) h
  · have h := ip hc h
    refine lv_aload_n hx hb dX12_animation_45 rfl (lv_at hl 0 rfl) ?_
    refine mg_al X hP dX12_animation_46 ?_
    refine lv_iload_n hx hb dX12_animation_49 rfl (lv_at hl 1 rfl) ?_
    refine lv_iload_n hx hb dX12_animation_50 rfl (lv_at hl 2 rfl) ?_
    obtain ⟨s2, hs2, h⟩ := ob h
    refine m_ast X hP hF hs2 dX12_animation_51 (fun H locs hP hF => ?_)
    refine lv_aload_n hx hb dX12_animation_52 rfl (lv_at hl 0 rfl) ?_
    refine mg_ar X hP dX12_animation_53 ?_
    refine lv_iload_n hx hb dX12_animation_56 rfl (lv_at hl 1 rfl) ?_
    refine lv_iload_n hx hb dX12_animation_57 rfl (lv_at hl 3 rfl) ?_
    obtain ⟨s3, hs3, h⟩ := ob h
    refine m_ast X hP hF hs3 dX12_animation_58 (fun H locs hP hF => ?_)
    refine lv_aload_n hx hb dX12_animation_59 rfl (lv_at hl 0 rfl) ?_
    refine mg_aw X hP dX12_animation_60 ?_
    refine lv_iload_n hx hb dX12_animation_63 rfl (lv_at hl 1 rfl) ?_
    refine lv_iload hx hb dX12_animation_64 (lv_at hl 4 rfl) ?_
    refine lv_if_eq (tgt := 73) hx hb dX12_animation_66 rfl (fun hc => ?_) (fun hc => ?_)
    · have h := ip hc h
      refine lv_iconst (v := (0:Int32)) hx hb dX12_animation_73 (by decide) ?_
      exact N_animation_74 X hP hF (lv_sub hl [0] rfl) h
    · have h := ine hc h
      refine lv_iconst (v := (1:Int32)) hx hb dX12_animation_69 (by decide) ?_
      refine lv_goto (tgt := 74) hx hb dX12_animation_70 rfl ?_
      exact N_animation_74 X hP hF (lv_sub hl [0] rfl) h
set_option maxRecDepth 20000 in
set_option maxHeartbeats 4000000 in
theorem N_animation_38 {p : Program} {l : Launch} {e : Env} {s : State} {m : MethodId} {args : Array Value} {below : List Frame} {meth : Method} {c : Code} {D : mD} {mb : Nat}   {x1 : Int32} {x2 : Int32} {x3 : Int32} {x4 : Int32} {σ : mS} {H : Heap} {locs : List Loc} {ls : Array Slot} {q : mS} (X : mX p s m args meth c cX12_animation 5 none D) (hP : mP D mb σ H) (hF : mF mb s.heap H locs)  (hl : lv_has ls 5 [(0, .ref mb), (1, .int x1), (2, .int x2), (3, .int x3), (4, .int x4)]) (h : f_animation_38  x1 x2 x3 x4 σ = some q) : mWw p l e 1 23 s m args below meth c D mb q none H locs (F0 m 38 ls [.ref mb]) := by
  have hx := X.1
  have hb := X.2.1
  have hown := X.2.2.2.1
  have hts := X.2.2.2.2.1
  have h : (f_animation_39 (x1) (x2) (x3) (x4) ((1:Int32)) σ) = some q := h
  refine lv_iconst (v := (1:Int32)) hx hb dX12_animation_38 (by decide) ?_
  exact N_animation_39 X hP hF (lv_sub hl [0, 1, 2, 3, 4] rfl) h
set_option maxRecDepth 20000 in
set_option maxHeartbeats 4000000 in
theorem K_animation (l : Launch) (D : mD) (mb : Nat) (σ : mS) (x1 : Int32) (x2 : Int32) (x3 : Int32) (x4 : Int32) {q : mS} (h : f_animation x1 x2 x3 x4 σ = some q) : Met l yX12_animation (Cond.code yX12_animation cX12_animation 5 none :: BG) (rM 1 23) (mPc D mb σ [.int x1, .int x2, .int x3, .int x4]) (mQw D mb q none) 0 0 (mReg mb) := by
  refine Met.ofW (cc := cX12_animation) (maxL := 5) (ret := none) (by decide) rfl ?_
  intro p e s m args below meth c s₁ B hml hv
  obtain ⟨rfl, hP, hK⟩ := hv
  have X := mX_of B hml rfl hK
  have hx := X.1
  have hb := X.2.1
  have hown := X.2.2.2.1
  have hts := X.2.2.2.2.1
  have hl := lv_entry (.ref mb :: [.int x1, .int x2, .int x3, .int x4]) (n := 5) (Nat.le_of_ble_eq_true rfl)
  rw [lg_entry_eq]
  generalize (lg_sl (.ref mb :: [.int x1, .int x2, .int x3, .int x4]) ++ List.replicate (5 - (lg_sl (.ref mb :: [.int x1, .int x2, .int x3, .int x4])).length) Slot.unset).toArray = ls at hl ⊢
  have hl : lv_has ls 5 [(0, .ref mb), (1, .int x1), (2, .int x2), (3, .int x3), (4, .int x4)] := hl
  have hF : mF mb s.heap s.heap [] := mF.rf
  show mWw p l e 1 23 s m (Value.ref mb :: [.int x1, .int x2, .int x3, .int x4]).toArray below meth c D mb q none s.heap [] (F0 m 0 ls [])
  have h : ((f_in (x1) ((0:Int32)) ((3:Int32))).bind (fun v1 => if v1 = (0:Int32) then (f_animation_38 (x1) (x2) (x3) (x4) σ) else ((f_in (x2) ((1:Int32)) ((1000:Int32))).bind (fun v2 => if v2 = (0:Int32) then (f_animation_38 (x1) (x2) (x3) (x4) σ) else ((f_in (x3) ((1:Int32)) ((100:Int32))).bind (fun v3 => if v3 = (0:Int32) then (f_animation_38 (x1) (x2) (x3) (x4) σ) else (f_animation_39 (x1) (x2) (x3) (x4) ((0:Int32)) σ))))))) = some q := h
  refine lv_aload_n hx hb dX12_animation_0 rfl (lv_at hl 0 rfl) ?_
  refine lv_aload_n hx hb dX12_animation_1 rfl (lv_at hl 0 rfl) ?_
  refine lv_iload_n hx hb dX12_animation_2 rfl (lv_at hl 1 rfl) ?_
  refine lv_iconst (v := (0:Int32)) hx hb dX12_animation_3 (by decide) ?_
  refine lv_iconst (v := (3:Int32)) hx hb dX12_animation_4 (by decide) ?_
  obtain ⟨v1, hv1, h⟩ := ob h
  refine cl_in X hP hv1 ⟨Nat.le_of_ble_eq_true rfl, Nat.le_of_ble_eq_true rfl⟩ hl.1 (Nat.le_of_ble_eq_true rfl) dX12_animation_5 ?_
  refine lv_if_eq (tgt := 38) hx hb dX12_animation_8 rfl (fun hc => ?_) (fun hc => ?_)
  · have h := ip hc h
    exact N_animation_38 X hP hF (lv_sub hl [0, 1, 2, 3, 4] rfl) h
  · have h := ine hc h
    refine lv_aload_n hx hb dX12_animation_11 rfl (lv_at hl 0 rfl) ?_
    refine lv_iload_n hx hb dX12_animation_12 rfl (lv_at hl 2 rfl) ?_
    refine lv_iconst (v := (1:Int32)) hx hb dX12_animation_13 (by decide) ?_
    refine lv_sipush (v := (1000:Int32)) hx hb dX12_animation_14 (by decide) ?_
    obtain ⟨v2, hv2, h⟩ := ob h
    refine cl_in X hP hv2 ⟨Nat.le_of_ble_eq_true rfl, Nat.le_of_ble_eq_true rfl⟩ hl.1 (Nat.le_of_ble_eq_true rfl) dX12_animation_17 ?_
    refine lv_if_eq (tgt := 38) hx hb dX12_animation_20 rfl (fun hc => ?_) (fun hc => ?_)
    · have h := ip hc h
      exact N_animation_38 X hP hF (lv_sub hl [0, 1, 2, 3, 4] rfl) h
    · have h := ine hc h
      refine lv_aload_n hx hb dX12_animation_23 rfl (lv_at hl 0 rfl) ?_
      refine lv_iload_n hx hb dX12_animation_24 rfl (lv_at hl 3 rfl) ?_
      refine lv_iconst (v := (1:Int32)) hx hb dX12_animation_25 (by decide) ?_
      refine lv_bipush (v := (100:Int32)) hx hb dX12_animation_26 (by decide) ?_
      obtain ⟨v3, hv3, h⟩ := ob h
      refine cl_in X hP hv3 ⟨Nat.le_of_ble_eq_true rfl, Nat.le_of_ble_eq_true rfl⟩ hl.1 (Nat.le_of_ble_eq_true rfl) dX12_animation_28 ?_
      refine lv_if_eq (tgt := 38) hx hb dX12_animation_31 rfl (fun hc => ?_) (fun hc => ?_)
      · have h := ip hc h
        exact N_animation_38 X hP hF (lv_sub hl [0, 1, 2, 3, 4] rfl) h
      · have h := ine hc h
        refine lv_iconst (v := (0:Int32)) hx hb dX12_animation_34 (by decide) ?_
        refine lv_goto (tgt := 39) hx hb dX12_animation_35 rfl ?_
        exact N_animation_39 X hP hF (lv_sub hl [0, 1, 2, 3, 4] rfl) h
-- frame(IIII)I
def f_frame_101  : Nat → Int32 → Int32 → Int32 → mS → Option (Int32 × mS)
  | 0, _, _, _, _ => none
  | n + 1, x1, x5, x6, σ => if (55:Int32) ≤ x6 then (some (x5, σ)) else ((rd σ 63 (((55:Int32) * x1) + x6)).bind (fun v1 => f_frame_101 n (x1) ((x5 + v1)) ((x6 + (1:Int32))) σ))
def f_frame_52  (x1 : Int32) (x2 : Int32) (x3 : Int32) (x4 : Int32) (y1 : Int32) (σ : mS) : Option (Int32 × mS) := (f_holds (y1) σ).bind (fun v1 => if v1.1 = (0:Int32) then ((wr v1.2 63 ((((55:Int32) * x1) + ((11:Int32) * x2)) + x3) (1:Int32)).bind (fun s2 => (wr s2 64 ((((55:Int32) * x1) + ((11:Int32) * x2)) + x3) x4).bind (fun s3 => f_frame_101 4000 (x1) ((0:Int32)) ((0:Int32)) s3))) else (some (((-1):Int32), v1.2)))
def f_frame_51  (x1 : Int32) (x2 : Int32) (x3 : Int32) (x4 : Int32) (σ : mS) : Option (Int32 × mS) := f_frame_52 (x1) (x2) (x3) (x4) ((1:Int32)) σ
def f_frame (x1 : Int32) (x2 : Int32) (x3 : Int32) (x4 : Int32) (σ : mS) : Option (Int32 × mS) := (f_in (x1) ((0:Int32)) ((3:Int32))).bind (fun v1 => if v1 = (0:Int32) then (f_frame_51 (x1) (x2) (x3) (x4) σ) else ((f_in (x2) ((0:Int32)) ((4:Int32))).bind (fun v2 => if v2 = (0:Int32) then (f_frame_51 (x1) (x2) (x3) (x4) σ) else ((f_in (x3) ((0:Int32)) ((10:Int32))).bind (fun v3 => if v3 = (0:Int32) then (f_frame_51 (x1) (x2) (x3) (x4) σ) else ((f_in (x4) (((-9999):Int32)) ((9999:Int32))).bind (fun v4 => if v4 = (0:Int32) then (f_frame_51 (x1) (x2) (x3) (x4) σ) else (f_frame_52 (x1) (x2) (x3) (x4) ((0:Int32)) σ))))))))
set_option maxRecDepth 20000 in
set_option maxHeartbeats 4000000 in
theorem N_frame_101 {p : Program} {l : Launch} {e : Env} {s : State} {m : MethodId} {args : Array Value} {below : List Frame} {meth : Method} {c : Code} {D : mD} {mb : Nat}  {n : Nat} {x1 : Int32} {x5 : Int32} {x6 : Int32} {σ : mS} {H : Heap} {locs : List Loc} {ls : Array Slot} {q : Int32 × mS} (X : mX p s m args meth c cX12_frame 7 (some .int) D) (hP : mP D mb σ H) (hF : mF mb s.heap H locs)  (hl : lv_has ls 7 [(0, .ref mb), (1, .int x1), (5, .int x5), (6, .int x6)]) (h : f_frame_101  n x1 x5 x6 σ = some q) : mWw p l e 1 23 s m args below meth c D mb q.2 (some (.int q.1)) H locs (F0 m 101 ls []) := by
  have hx := X.1
  have hb := X.2.1
  have hown := X.2.2.2.1
  have hts := X.2.2.2.2.1
  induction n generalizing x1 x5 x6 σ H locs ls with
  | zero => exact absurd (show none = some q from h) (by simp)
  | succ n ih =>
    have h : (if (55:Int32) ≤ x6 then (some (x5, σ)) else ((rd σ 63 (((55:Int32) * x1) + x6)).bind (fun v1 => f_frame_101 n (x1) ((x5 + v1)) ((x6 + (1:Int32))) σ))) = some q := h
    refine lv_iload hx hb dX12_frame_101 (lv_at hl 3 rfl) ?_
    refine lv_bipush (v := (55:Int32)) hx hb dX12_frame_103 (by decide) ?_
    refine lv_icmp_ge (tgt := 131) hx hb dX12_frame_105 rfl (fun hc => ?_) (fun hc => ?_)
    · have h := ip hc h
      refine lv_iload hx hb dX12_frame_131 (lv_at hl 2 rfl) ?_
      obtain rfl := sj h
      exact m_wi X hP hF dX12_frame_133
    · have h := ine hc h
      refine lv_iload hx hb dX12_frame_108 (lv_at hl 2 rfl) ?_
      refine lv_aload_n hx hb dX12_frame_110 rfl (lv_at hl 0 rfl) ?_
      refine mg_fs X hP dX12_frame_111 ?_
      refine lv_bipush (v := (55:Int32)) hx hb dX12_frame_114 (by decide) ?_
      refine lv_iload_n hx hb dX12_frame_116 rfl (lv_at hl 1 rfl) ?_
      refine lv_imul hx hb dX12_frame_117 ?_
      refine lv_iload hx hb dX12_frame_118 (lv_at hl 3 rfl) ?_
      refine lv_iadd hx hb dX12_frame_120 ?_
      obtain ⟨v1, hv1, h⟩ := ob h
      refine m_ald X hP hv1 dX12_frame_121 ?_
      refine lv_iadd hx hb dX12_frame_122 ?_
      refine lv_istore hx hb dX12_frame_123 hl (Nat.le_of_ble_eq_true rfl) rfl (fun ls (hl : lv_has ls 7 [(5, .int (x5 + v1)), (0, .ref mb), (1, .int x1), (6, .int x6)]) => ?_)
      refine lv_iinc (v := (x6 + (1:Int32))) hx hb dX12_frame_125 hl (k := 3) rfl rfl (Nat.le_of_ble_eq_true rfl) rfl (fun ls (hl : lv_has ls 7 [(6, .int (x6 + (1:Int32))), (5, .int (x5 + v1)), (0, .ref mb), (1, .int x1)]) => ?_)
      refine lv_goto (tgt := 101) hx hb dX12_frame_128 rfl ?_
      exact ih hP hF (lv_sub hl [2, 3, 1, 0] rfl) h
set_option maxRecDepth 20000 in
set_option maxHeartbeats 4000000 in
theorem N_frame_52 {p : Program} {l : Launch} {e : Env} {s : State} {m : MethodId} {args : Array Value} {below : List Frame} {meth : Method} {c : Code} {D : mD} {mb : Nat}   {x1 : Int32} {x2 : Int32} {x3 : Int32} {x4 : Int32} {y1 : Int32} {σ : mS} {H : Heap} {locs : List Loc} {ls : Array Slot} {q : Int32 × mS} (X : mX p s m args meth c cX12_frame 7 (some .int) D) (hP : mP D mb σ H) (hF : mF mb s.heap H locs)  (hl : lv_has ls 7 [(0, .ref mb), (1, .int x1), (2, .int x2), (3, .int x3), (4, .int x4)]) (h : f_frame_52  x1 x2 x3 x4 y1 σ = some q) : mWw p l e 1 23 s m args below meth c D mb q.2 (some (.int q.1)) H locs (F0 m 52 ls [.int y1, .ref mb]) := by
  have hx := X.1
  have hb := X.2.1
  have hown := X.2.2.2.1
  have hts := X.2.2.2.2.1
  have h : ((f_holds (y1) σ).bind (fun v1 => if v1.1 = (0:Int32) then ((wr v1.2 63 ((((55:Int32) * x1) + ((11:Int32) * x2)) + x3) (1:Int32)).bind (fun s2 => (wr s2 64 ((((55:Int32) * x1) + ((11:Int32) * x2)) + x3) x4).bind (fun s3 => f_frame_101 4000 (x1) ((0:Int32)) ((0:Int32)) s3))) else (some (((-1):Int32), v1.2)))) = some q := h
  obtain ⟨v1, hv1, h⟩ := ob h
  refine cl_holds X hP hF hv1 ⟨Nat.le_of_ble_eq_true rfl, Nat.le_of_ble_eq_true rfl⟩ hl.1 (Nat.le_of_ble_eq_true rfl) dX12_frame_52 (fun H locs hP hF => ?_)
  refine lv_if_eq (tgt := 60) hx hb dX12_frame_55 rfl (fun hc => ?_) (fun hc => ?_)
  · have h := ip hc h
    refine lv_aload_n hx hb dX12_frame_60 rfl (lv_at hl 0 rfl) ?_
    refine mg_fs X hP dX12_frame_61 ?_
    refine lv_bipush (v := (55:Int32)) hx hb dX12_frame_64 (by decide) ?_
    refine lv_iload_n hx hb dX12_frame_66 rfl (lv_at hl 1 rfl) ?_
    refine lv_imul hx hb dX12_frame_67 ?_
    refine lv_bipush (v := (11:Int32)) hx hb dX12_frame_68 (by decide) ?_
    refine lv_iload_n hx hb dX12_frame_70 rfl (lv_at hl 2 rfl) ?_
    refine lv_imul hx hb dX12_frame_71 ?_
    refine lv_iadd hx hb dX12_frame_72 ?_
    refine lv_iload_n hx hb dX12_frame_73 rfl (lv_at hl 3 rfl) ?_
    refine lv_iadd hx hb dX12_frame_74 ?_
    refine lv_iconst (v := (1:Int32)) hx hb dX12_frame_75 (by decide) ?_
    obtain ⟨s2, hs2, h⟩ := ob h
    refine m_ast X hP hF hs2 dX12_frame_76 (fun H locs hP hF => ?_)
    refine lv_aload_n hx hb dX12_frame_77 rfl (lv_at hl 0 rfl) ?_
    refine mg_fn X hP dX12_frame_78 ?_
    refine lv_bipush (v := (55:Int32)) hx hb dX12_frame_81 (by decide) ?_
    refine lv_iload_n hx hb dX12_frame_83 rfl (lv_at hl 1 rfl) ?_
    refine lv_imul hx hb dX12_frame_84 ?_
    refine lv_bipush (v := (11:Int32)) hx hb dX12_frame_85 (by decide) ?_
    refine lv_iload_n hx hb dX12_frame_87 rfl (lv_at hl 2 rfl) ?_
    refine lv_imul hx hb dX12_frame_88 ?_
    refine lv_iadd hx hb dX12_frame_89 ?_
    refine lv_iload_n hx hb dX12_frame_90 rfl (lv_at hl 3 rfl) ?_
    refine lv_iadd hx hb dX12_frame_91 ?_
    refine lv_iload hx hb dX12_frame_92 (lv_at hl 4 rfl) ?_
    obtain ⟨s3, hs3, h⟩ := ob h
    refine m_ast X hP hF hs3 dX12_frame_94 (fun H locs hP hF => ?_)
    refine lv_iconst (v := (0:Int32)) hx hb dX12_frame_95 (by decide) ?_
    refine lv_istore hx hb dX12_frame_96 hl (Nat.le_of_ble_eq_true rfl) rfl (fun ls (hl : lv_has ls 7 [(5, .int (0:Int32)), (0, .ref mb), (1, .int x1), (2, .int x2), (3, .int x3), (4, .int x4)]) => ?_)
    refine lv_iconst (v := (0:Int32)) hx hb dX12_frame_98 (by decide) ?_
    refine lv_istore hx hb dX12_frame_99 hl (Nat.le_of_ble_eq_true rfl) rfl (fun ls (hl : lv_has ls 7 [(6, .int (0:Int32)), (5, .int (0:Int32)), (0, .ref mb), (1, .int x1), (2, .int x2), (3, .int x3), (4, .int x4)]) => ?_)
    exact N_frame_101 X hP hF (lv_sub hl [2, 3, 1, 0] rfl) h
  · have h := ine hc h
    refine lv_iconst (v := ((-1):Int32)) hx hb dX12_frame_58 (by decide) ?_
    obtain rfl := sj h
    exact m_wi X hP hF dX12_frame_59
set_option maxRecDepth 20000 in
set_option maxHeartbeats 4000000 in
theorem N_frame_51 {p : Program} {l : Launch} {e : Env} {s : State} {m : MethodId} {args : Array Value} {below : List Frame} {meth : Method} {c : Code} {D : mD} {mb : Nat}   {x1 : Int32} {x2 : Int32} {x3 : Int32} {x4 : Int32} {σ : mS} {H : Heap} {locs : List Loc} {ls : Array Slot} {q : Int32 × mS} (X : mX p s m args meth c cX12_frame 7 (some .int) D) (hP : mP D mb σ H) (hF : mF mb s.heap H locs)  (hl : lv_has ls 7 [(0, .ref mb), (1, .int x1), (2, .int x2), (3, .int x3), (4, .int x4)]) (h : f_frame_51  x1 x2 x3 x4 σ = some q) : mWw p l e 1 23 s m args below meth c D mb q.2 (some (.int q.1)) H locs (F0 m 51 ls [.ref mb]) := by
  have hx := X.1
  have hb := X.2.1
  have hown := X.2.2.2.1
  have hts := X.2.2.2.2.1
  have h : (f_frame_52 (x1) (x2) (x3) (x4) ((1:Int32)) σ) = some q := h
  refine lv_iconst (v := (1:Int32)) hx hb dX12_frame_51 (by decide) ?_
  exact N_frame_52 X hP hF (lv_sub hl [0, 1, 2, 3, 4] rfl) h
set_option maxRecDepth 20000 in
set_option maxHeartbeats 4000000 in
theorem K_frame (l : Launch) (D : mD) (mb : Nat) (σ : mS) (x1 : Int32) (x2 : Int32) (x3 : Int32) (x4 : Int32) {q : Int32 × mS} (h : f_frame x1 x2 x3 x4 σ = some q) : Met l yX12_frame (Cond.code yX12_frame cX12_frame 7 (some .int) :: BG) (rM 1 23) (mPc D mb σ [.int x1, .int x2, .int x3, .int x4]) (mQw D mb q.2 (some (.int q.1))) 0 0 (mReg mb) := by
  refine Met.ofW (cc := cX12_frame) (maxL := 7) (ret := (some .int)) (by decide) rfl ?_
  intro p e s m args below meth c s₁ B hml hv
  obtain ⟨rfl, hP, hK⟩ := hv
  have X := mX_of B hml rfl hK
  have hx := X.1
  have hb := X.2.1
  have hown := X.2.2.2.1
  have hts := X.2.2.2.2.1
  have hl := lv_entry (.ref mb :: [.int x1, .int x2, .int x3, .int x4]) (n := 7) (Nat.le_of_ble_eq_true rfl)
  rw [lg_entry_eq]
  generalize (lg_sl (.ref mb :: [.int x1, .int x2, .int x3, .int x4]) ++ List.replicate (7 - (lg_sl (.ref mb :: [.int x1, .int x2, .int x3, .int x4])).length) Slot.unset).toArray = ls at hl ⊢
  have hl : lv_has ls 7 [(0, .ref mb), (1, .int x1), (2, .int x2), (3, .int x3), (4, .int x4)] := hl
  have hF : mF mb s.heap s.heap [] := mF.rf
  show mWw p l e 1 23 s m (Value.ref mb :: [.int x1, .int x2, .int x3, .int x4]).toArray below meth c D mb q.2 (some (.int q.1)) s.heap [] (F0 m 0 ls [])
  have h : ((f_in (x1) ((0:Int32)) ((3:Int32))).bind (fun v1 => if v1 = (0:Int32) then (f_frame_51 (x1) (x2) (x3) (x4) σ) else ((f_in (x2) ((0:Int32)) ((4:Int32))).bind (fun v2 => if v2 = (0:Int32) then (f_frame_51 (x1) (x2) (x3) (x4) σ) else ((f_in (x3) ((0:Int32)) ((10:Int32))).bind (fun v3 => if v3 = (0:Int32) then (f_frame_51 (x1) (x2) (x3) (x4) σ) else ((f_in (x4) (((-9999):Int32)) ((9999:Int32))).bind (fun v4 => if v4 = (0:Int32) then (f_frame_51 (x1) (x2) (x3) (x4) σ) else (f_frame_52 (x1) (x2) (x3) (x4) ((0:Int32)) σ))))))))) = some q := h
  refine lv_aload_n hx hb dX12_frame_0 rfl (lv_at hl 0 rfl) ?_
  refine lv_aload_n hx hb dX12_frame_1 rfl (lv_at hl 0 rfl) ?_
  refine lv_iload_n hx hb dX12_frame_2 rfl (lv_at hl 1 rfl) ?_
  refine lv_iconst (v := (0:Int32)) hx hb dX12_frame_3 (by decide) ?_
  refine lv_iconst (v := (3:Int32)) hx hb dX12_frame_4 (by decide) ?_
  obtain ⟨v1, hv1, h⟩ := ob h
  refine cl_in X hP hv1 ⟨Nat.le_of_ble_eq_true rfl, Nat.le_of_ble_eq_true rfl⟩ hl.1 (Nat.le_of_ble_eq_true rfl) dX12_frame_5 ?_
  refine lv_if_eq (tgt := 51) hx hb dX12_frame_8 rfl (fun hc => ?_) (fun hc => ?_)
  · have h := ip hc h
    exact N_frame_51 X hP hF (lv_sub hl [0, 1, 2, 3, 4] rfl) h
  · have h := ine hc h
    refine lv_aload_n hx hb dX12_frame_11 rfl (lv_at hl 0 rfl) ?_
    refine lv_iload_n hx hb dX12_frame_12 rfl (lv_at hl 2 rfl) ?_
    refine lv_iconst (v := (0:Int32)) hx hb dX12_frame_13 (by decide) ?_
    refine lv_iconst (v := (4:Int32)) hx hb dX12_frame_14 (by decide) ?_
    obtain ⟨v2, hv2, h⟩ := ob h
    refine cl_in X hP hv2 ⟨Nat.le_of_ble_eq_true rfl, Nat.le_of_ble_eq_true rfl⟩ hl.1 (Nat.le_of_ble_eq_true rfl) dX12_frame_15 ?_
    refine lv_if_eq (tgt := 51) hx hb dX12_frame_18 rfl (fun hc => ?_) (fun hc => ?_)
    · have h := ip hc h
      exact N_frame_51 X hP hF (lv_sub hl [0, 1, 2, 3, 4] rfl) h
    · have h := ine hc h
      refine lv_aload_n hx hb dX12_frame_21 rfl (lv_at hl 0 rfl) ?_
      refine lv_iload_n hx hb dX12_frame_22 rfl (lv_at hl 3 rfl) ?_
      refine lv_iconst (v := (0:Int32)) hx hb dX12_frame_23 (by decide) ?_
      refine lv_bipush (v := (10:Int32)) hx hb dX12_frame_24 (by decide) ?_
      obtain ⟨v3, hv3, h⟩ := ob h
      refine cl_in X hP hv3 ⟨Nat.le_of_ble_eq_true rfl, Nat.le_of_ble_eq_true rfl⟩ hl.1 (Nat.le_of_ble_eq_true rfl) dX12_frame_26 ?_
      refine lv_if_eq (tgt := 51) hx hb dX12_frame_29 rfl (fun hc => ?_) (fun hc => ?_)
      · have h := ip hc h
        exact N_frame_51 X hP hF (lv_sub hl [0, 1, 2, 3, 4] rfl) h
      · have h := ine hc h
        refine lv_aload_n hx hb dX12_frame_32 rfl (lv_at hl 0 rfl) ?_
        refine lv_iload hx hb dX12_frame_33 (lv_at hl 4 rfl) ?_
        refine lv_sipush (v := ((-9999):Int32)) hx hb dX12_frame_35 (by decide) ?_
        refine lv_sipush (v := (9999:Int32)) hx hb dX12_frame_38 (by decide) ?_
        obtain ⟨v4, hv4, h⟩ := ob h
        refine cl_in X hP hv4 ⟨Nat.le_of_ble_eq_true rfl, Nat.le_of_ble_eq_true rfl⟩ hl.1 (Nat.le_of_ble_eq_true rfl) dX12_frame_41 ?_
        refine lv_if_eq (tgt := 51) hx hb dX12_frame_44 rfl (fun hc => ?_) (fun hc => ?_)
        · have h := ip hc h
          exact N_frame_51 X hP hF (lv_sub hl [0, 1, 2, 3, 4] rfl) h
        · have h := ine hc h
          refine lv_iconst (v := (0:Int32)) hx hb dX12_frame_47 (by decide) ?_
          refine lv_goto (tgt := 52) hx hb dX12_frame_48 rfl ?_
          exact N_frame_52 X hP hF (lv_sub hl [0, 1, 2, 3, 4] rfl) h
-- listen(IIII)I
def f_listen_62  (x1 : Int32) (x2 : Int32) (x3 : Int32) (x4 : Int32) (y1 : Int32) (σ : mS) : Option (Int32 × mS) := (f_holds (y1) σ).bind (fun v1 => if v1.1 = (0:Int32) then ((wr v1.2 65 (v1.2.2 70) x1).bind (fun s2 => (wr s2 66 (s2.2 70) x2).bind (fun s3 => (wr s3 67 (s3.2 70) x3).bind (fun s4 => (wr s4 68 (s4.2 70) x4).bind (fun s5 => some ((((sf s5 70 ((s5.2 70) + (1:Int32))).2 70) - (1:Int32)), (sf s5 70 ((s5.2 70) + (1:Int32))))))))) else (some (((-1):Int32), v1.2)))
def f_listen_17  (x1 : Int32) (x2 : Int32) (x3 : Int32) (x4 : Int32) (σ : mS) : Option (Int32 × mS) := f_listen_62 (x1) (x2) (x3) (x4) ((1:Int32)) σ
def f_listen_44  (x1 : Int32) (x2 : Int32) (x3 : Int32) (x4 : Int32) (σ : mS) : Option (Int32 × mS) := f_listen_62 (x1) (x2) (x3) (x4) ((2:Int32)) σ
def f_listen (x1 : Int32) (x2 : Int32) (x3 : Int32) (x4 : Int32) (σ : mS) : Option (Int32 × mS) := (f_isElement (x1) σ).bind (fun v1 => if v1 = (0:Int32) then (f_listen_17 (x1) (x2) (x3) (x4) σ) else ((f_isElement (x3) σ).bind (fun v2 => if v2 = (0:Int32) then (f_listen_17 (x1) (x2) (x3) (x4) σ) else ((f_in (x2) ((0:Int32)) ((14:Int32))).bind (fun v3 => if v3 = (0:Int32) then (f_listen_44 (x1) (x2) (x3) (x4) σ) else ((f_in (x4) ((0:Int32)) ((7:Int32))).bind (fun v4 => if v4 = (0:Int32) then (f_listen_44 (x1) (x2) (x3) (x4) σ) else (if (σ.2 70) = (6:Int32) then (f_listen_62 (x1) (x2) (x3) (x4) ((3:Int32)) σ) else (f_listen_62 (x1) (x2) (x3) (x4) ((0:Int32)) σ)))))))))
set_option maxRecDepth 20000 in
set_option maxHeartbeats 4000000 in
theorem N_listen_62 {p : Program} {l : Launch} {e : Env} {s : State} {m : MethodId} {args : Array Value} {below : List Frame} {meth : Method} {c : Code} {D : mD} {mb : Nat}   {x1 : Int32} {x2 : Int32} {x3 : Int32} {x4 : Int32} {y1 : Int32} {σ : mS} {H : Heap} {locs : List Loc} {ls : Array Slot} {q : Int32 × mS} (X : mX p s m args meth c cX12_listen 5 (some .int) D) (hP : mP D mb σ H) (hF : mF mb s.heap H locs)  (hl : lv_has ls 5 [(0, .ref mb), (1, .int x1), (2, .int x2), (3, .int x3), (4, .int x4)]) (h : f_listen_62  x1 x2 x3 x4 y1 σ = some q) : mWw p l e 2 44 s m args below meth c D mb q.2 (some (.int q.1)) H locs (F0 m 62 ls [.int y1, .ref mb]) := by
  have hx := X.1
  have hb := X.2.1
  have hown := X.2.2.2.1
  have hts := X.2.2.2.2.1
  have h : ((f_holds (y1) σ).bind (fun v1 => if v1.1 = (0:Int32) then ((wr v1.2 65 (v1.2.2 70) x1).bind (fun s2 => (wr s2 66 (s2.2 70) x2).bind (fun s3 => (wr s3 67 (s3.2 70) x3).bind (fun s4 => (wr s4 68 (s4.2 70) x4).bind (fun s5 => some ((((sf s5 70 ((s5.2 70) + (1:Int32))).2 70) - (1:Int32)), (sf s5 70 ((s5.2 70) + (1:Int32))))))))) else (some (((-1):Int32), v1.2)))) = some q := h
  obtain ⟨v1, hv1, h⟩ := ob h
  refine cl_holds X hP hF hv1 ⟨Nat.le_of_ble_eq_true rfl, Nat.le_of_ble_eq_true rfl⟩ hl.1 (Nat.le_of_ble_eq_true rfl) dX12_listen_62 (fun H locs hP hF => ?_)
  refine lv_if_eq (tgt := 70) hx hb dX12_listen_65 rfl (fun hc => ?_) (fun hc => ?_)
  · have h := ip hc h
    refine lv_aload_n hx hb dX12_listen_70 rfl (lv_at hl 0 rfl) ?_
    refine mg_le X hP dX12_listen_71 ?_
    refine lv_aload_n hx hb dX12_listen_74 rfl (lv_at hl 0 rfl) ?_
    refine mg_listeners X hP dX12_listen_75 ?_
    refine lv_iload_n hx hb dX12_listen_78 rfl (lv_at hl 1 rfl) ?_
    obtain ⟨s2, hs2, h⟩ := ob h
    refine m_ast X hP hF hs2 dX12_listen_79 (fun H locs hP hF => ?_)
    refine lv_aload_n hx hb dX12_listen_80 rfl (lv_at hl 0 rfl) ?_
    refine mg_lp X hP dX12_listen_81 ?_
    refine lv_aload_n hx hb dX12_listen_84 rfl (lv_at hl 0 rfl) ?_
    refine mg_listeners X hP dX12_listen_85 ?_
    refine lv_iload_n hx hb dX12_listen_88 rfl (lv_at hl 2 rfl) ?_
    obtain ⟨s3, hs3, h⟩ := ob h
    refine m_ast X hP hF hs3 dX12_listen_89 (fun H locs hP hF => ?_)
    refine lv_aload_n hx hb dX12_listen_90 rfl (lv_at hl 0 rfl) ?_
    refine mg_lo X hP dX12_listen_91 ?_
    refine lv_aload_n hx hb dX12_listen_94 rfl (lv_at hl 0 rfl) ?_
    refine mg_listeners X hP dX12_listen_95 ?_
    refine lv_iload_n hx hb dX12_listen_98 rfl (lv_at hl 3 rfl) ?_
    obtain ⟨s4, hs4, h⟩ := ob h
    refine m_ast X hP hF hs4 dX12_listen_99 (fun H locs hP hF => ?_)
    refine lv_aload_n hx hb dX12_listen_100 rfl (lv_at hl 0 rfl) ?_
    refine mg_lc X hP dX12_listen_101 ?_
    refine lv_aload_n hx hb dX12_listen_104 rfl (lv_at hl 0 rfl) ?_
    refine mg_listeners X hP dX12_listen_105 ?_
    refine lv_iload hx hb dX12_listen_108 (lv_at hl 4 rfl) ?_
    obtain ⟨s5, hs5, h⟩ := ob h
    refine m_ast X hP hF hs5 dX12_listen_110 (fun H locs hP hF => ?_)
    refine lv_aload_n hx hb dX12_listen_111 rfl (lv_at hl 0 rfl) ?_
    refine lv_dup hx hb dX12_listen_112 rfl ?_
    refine mg_listeners X hP dX12_listen_113 ?_
    refine lv_iconst (v := (1:Int32)) hx hb dX12_listen_116 (by decide) ?_
    refine lv_iadd hx hb dX12_listen_117 ?_
    refine mp_listeners X hP hF dX12_listen_118 (fun H locs hP hF => ?_)
    refine lv_aload_n hx hb dX12_listen_121 rfl (lv_at hl 0 rfl) ?_
    refine mg_listeners X hP dX12_listen_122 ?_
    refine lv_iconst (v := (1:Int32)) hx hb dX12_listen_125 (by decide) ?_
    refine lv_isub hx hb dX12_listen_126 ?_
    obtain rfl := sj h
    exact m_wi X hP hF dX12_listen_127
  · have h := ine hc h
    refine lv_iconst (v := ((-1):Int32)) hx hb dX12_listen_68 (by decide) ?_
    obtain rfl := sj h
    exact m_wi X hP hF dX12_listen_69
set_option maxRecDepth 20000 in
set_option maxHeartbeats 4000000 in
theorem N_listen_17 {p : Program} {l : Launch} {e : Env} {s : State} {m : MethodId} {args : Array Value} {below : List Frame} {meth : Method} {c : Code} {D : mD} {mb : Nat}   {x1 : Int32} {x2 : Int32} {x3 : Int32} {x4 : Int32} {σ : mS} {H : Heap} {locs : List Loc} {ls : Array Slot} {q : Int32 × mS} (X : mX p s m args meth c cX12_listen 5 (some .int) D) (hP : mP D mb σ H) (hF : mF mb s.heap H locs)  (hl : lv_has ls 5 [(0, .ref mb), (1, .int x1), (2, .int x2), (3, .int x3), (4, .int x4)]) (h : f_listen_17  x1 x2 x3 x4 σ = some q) : mWw p l e 2 44 s m args below meth c D mb q.2 (some (.int q.1)) H locs (F0 m 17 ls [.ref mb]) := by
  have hx := X.1
  have hb := X.2.1
  have hown := X.2.2.2.1
  have hts := X.2.2.2.2.1
  have h : (f_listen_62 (x1) (x2) (x3) (x4) ((1:Int32)) σ) = some q := h
  refine lv_iconst (v := (1:Int32)) hx hb dX12_listen_17 (by decide) ?_
  refine lv_goto (tgt := 62) hx hb dX12_listen_18 rfl ?_
  exact N_listen_62 X hP hF (lv_sub hl [0, 1, 2, 3, 4] rfl) h
set_option maxRecDepth 20000 in
set_option maxHeartbeats 4000000 in
theorem N_listen_44 {p : Program} {l : Launch} {e : Env} {s : State} {m : MethodId} {args : Array Value} {below : List Frame} {meth : Method} {c : Code} {D : mD} {mb : Nat}   {x1 : Int32} {x2 : Int32} {x3 : Int32} {x4 : Int32} {σ : mS} {H : Heap} {locs : List Loc} {ls : Array Slot} {q : Int32 × mS} (X : mX p s m args meth c cX12_listen 5 (some .int) D) (hP : mP D mb σ H) (hF : mF mb s.heap H locs)  (hl : lv_has ls 5 [(0, .ref mb), (1, .int x1), (2, .int x2), (3, .int x3), (4, .int x4)]) (h : f_listen_44  x1 x2 x3 x4 σ = some q) : mWw p l e 2 44 s m args below meth c D mb q.2 (some (.int q.1)) H locs (F0 m 44 ls [.ref mb]) := by
  have hx := X.1
  have hb := X.2.1
  have hown := X.2.2.2.1
  have hts := X.2.2.2.2.1
  have h : (f_listen_62 (x1) (x2) (x3) (x4) ((2:Int32)) σ) = some q := h
  refine lv_iconst (v := (2:Int32)) hx hb dX12_listen_44 (by decide) ?_
  refine lv_goto (tgt := 62) hx hb dX12_listen_45 rfl ?_
  exact N_listen_62 X hP hF (lv_sub hl [0, 1, 2, 3, 4] rfl) h
set_option maxRecDepth 20000 in
set_option maxHeartbeats 4000000 in
theorem K_listen (l : Launch) (D : mD) (mb : Nat) (σ : mS) (x1 : Int32) (x2 : Int32) (x3 : Int32) (x4 : Int32) {q : Int32 × mS} (h : f_listen x1 x2 x3 x4 σ = some q) : Met l yX12_listen (Cond.code yX12_listen cX12_listen 5 (some .int) :: BG) (rM 2 44) (mPc D mb σ [.int x1, .int x2, .int x3, .int x4]) (mQw D mb q.2 (some (.int q.1))) 0 0 (mReg mb) := by
  refine Met.ofW (cc := cX12_listen) (maxL := 5) (ret := (some .int)) (by decide) rfl ?_
  intro p e s m args below meth c s₁ B hml hv
  obtain ⟨rfl, hP, hK⟩ := hv
  have X := mX_of B hml rfl hK
  have hx := X.1
  have hb := X.2.1
  have hown := X.2.2.2.1
  have hts := X.2.2.2.2.1
  have hl := lv_entry (.ref mb :: [.int x1, .int x2, .int x3, .int x4]) (n := 5) (Nat.le_of_ble_eq_true rfl)
  rw [lg_entry_eq]
  generalize (lg_sl (.ref mb :: [.int x1, .int x2, .int x3, .int x4]) ++ List.replicate (5 - (lg_sl (.ref mb :: [.int x1, .int x2, .int x3, .int x4])).length) Slot.unset).toArray = ls at hl ⊢
  have hl : lv_has ls 5 [(0, .ref mb), (1, .int x1), (2, .int x2), (3, .int x3), (4, .int x4)] := hl
  have hF : mF mb s.heap s.heap [] := mF.rf
  show mWw p l e 2 44 s m (Value.ref mb :: [.int x1, .int x2, .int x3, .int x4]).toArray below meth c D mb q.2 (some (.int q.1)) s.heap [] (F0 m 0 ls [])
  have h : ((f_isElement (x1) σ).bind (fun v1 => if v1 = (0:Int32) then (f_listen_17 (x1) (x2) (x3) (x4) σ) else ((f_isElement (x3) σ).bind (fun v2 => if v2 = (0:Int32) then (f_listen_17 (x1) (x2) (x3) (x4) σ) else ((f_in (x2) ((0:Int32)) ((14:Int32))).bind (fun v3 => if v3 = (0:Int32) then (f_listen_44 (x1) (x2) (x3) (x4) σ) else ((f_in (x4) ((0:Int32)) ((7:Int32))).bind (fun v4 => if v4 = (0:Int32) then (f_listen_44 (x1) (x2) (x3) (x4) σ) else (if (σ.2 70) = (6:Int32) then (f_listen_62 (x1) (x2) (x3) (x4) ((3:Int32)) σ) else (f_listen_62 (x1) (x2) (x3) (x4) ((0:Int32)) σ)))))))))) = some q := h
  refine lv_aload_n hx hb dX12_listen_0 rfl (lv_at hl 0 rfl) ?_
  refine lv_aload_n hx hb dX12_listen_1 rfl (lv_at hl 0 rfl) ?_
  refine lv_iload_n hx hb dX12_listen_2 rfl (lv_at hl 1 rfl) ?_
  obtain ⟨v1, hv1, h⟩ := ob h
  refine cl_isElement X hP hv1 ⟨Nat.le_of_ble_eq_true rfl, Nat.le_of_ble_eq_true rfl⟩ hl.1 (Nat.le_of_ble_eq_true rfl) dX12_listen_3 ?_
  refine lv_if_eq (tgt := 17) hx hb dX12_listen_6 rfl (fun hc => ?_) (fun hc => ?_)
  · have h := ip hc h
    exact N_listen_17 X hP hF (lv_sub hl [0, 1, 2, 3, 4] rfl) h
  · have h := ine hc h
    refine lv_aload_n hx hb dX12_listen_9 rfl (lv_at hl 0 rfl) ?_
    refine lv_iload_n hx hb dX12_listen_10 rfl (lv_at hl 3 rfl) ?_
    obtain ⟨v2, hv2, h⟩ := ob h
    refine cl_isElement X hP hv2 ⟨Nat.le_of_ble_eq_true rfl, Nat.le_of_ble_eq_true rfl⟩ hl.1 (Nat.le_of_ble_eq_true rfl) dX12_listen_11 ?_
    refine lv_if_ne (tgt := 21) hx hb dX12_listen_14 rfl (fun hc => ?_) (fun hc => ?_)
    · have h := ine hc h
      refine lv_aload_n hx hb dX12_listen_21 rfl (lv_at hl 0 rfl) ?_
      refine lv_iload_n hx hb dX12_listen_22 rfl (lv_at hl 2 rfl) ?_
      refine lv_iconst (v := (0:Int32)) hx hb dX12_listen_23 (by decide) ?_
      refine lv_bipush (v := (14:Int32)) hx hb dX12_listen_24 (by decide) ?_
      obtain ⟨v3, hv3, h⟩ := ob h
      refine cl_in X hP hv3 ⟨Nat.le_of_ble_eq_true rfl, Nat.le_of_ble_eq_true rfl⟩ hl.1 (Nat.le_of_ble_eq_true rfl) dX12_listen_26 ?_
      refine lv_if_eq (tgt := 44) hx hb dX12_listen_29 rfl (fun hc => ?_) (fun hc => ?_)
      · have h := ip hc h
        exact N_listen_44 X hP hF (lv_sub hl [0, 1, 2, 3, 4] rfl) h
      · have h := ine hc h
        refine lv_aload_n hx hb dX12_listen_32 rfl (lv_at hl 0 rfl) ?_
        refine lv_iload hx hb dX12_listen_33 (lv_at hl 4 rfl) ?_
        refine lv_iconst (v := (0:Int32)) hx hb dX12_listen_35 (by decide) ?_
        refine lv_bipush (v := (7:Int32)) hx hb dX12_listen_36 (by decide) ?_
        obtain ⟨v4, hv4, h⟩ := ob h
        refine cl_in X hP hv4 ⟨Nat.le_of_ble_eq_true rfl, Nat.le_of_ble_eq_true rfl⟩ hl.1 (Nat.le_of_ble_eq_true rfl) dX12_listen_38 ?_
        refine lv_if_ne (tgt := 48) hx hb dX12_listen_41 rfl (fun hc => ?_) (fun hc => ?_)
        · have h := ine hc h
          refine lv_aload_n hx hb dX12_listen_48 rfl (lv_at hl 0 rfl) ?_
          refine mg_listeners X hP dX12_listen_49 ?_
          refine lv_bipush (v := (6:Int32)) hx hb dX12_listen_52 (by decide) ?_
          refine lv_icmp_ne (tgt := 61) hx hb dX12_listen_54 rfl (fun hc => ?_) (fun hc => ?_)
          · have h := ine hc h
            refine lv_iconst (v := (0:Int32)) hx hb dX12_listen_61 (by decide) ?_
            exact N_listen_62 X hP hF (lv_sub hl [0, 1, 2, 3, 4] rfl) h
          · have h := ip hc h
            refine lv_iconst (v := (3:Int32)) hx hb dX12_listen_57 (by decide) ?_
            refine lv_goto (tgt := 62) hx hb dX12_listen_58 rfl ?_
            exact N_listen_62 X hP hF (lv_sub hl [0, 1, 2, 3, 4] rfl) h
        · have h := ip hc h
          exact N_listen_44 X hP hF (lv_sub hl [0, 1, 2, 3, 4] rfl) h
    · have h := ip hc h
      exact N_listen_17 X hP hF (lv_sub hl [0, 1, 2, 3, 4] rfl) h
