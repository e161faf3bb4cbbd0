theorem d_M_remove_18 : decode b_M_remove 18 = .ok (.ireturn, 1) := by decide +kernel
theorem d_M_isThere_0 : decode b_M_isThere 0 = .ok (.iload_n 1, 1) := by decide +kernel
theorem d_M_isThere_1 : decode b_M_isThere 1 = .ok (.bipush 16, 2) := by decide +kernel
theorem d_M_isThere_3 : decode b_M_isThere 3 = .ok (.invokestatic 58, 3) := by decide +kernel
theorem d_M_isThere_6 : decode b_M_isThere 6 = .ok (.ifCond .eq 16, 3) := by decide +kernel
theorem d_M_isThere_9 : decode b_M_isThere 9 = .ok (.aload_n 0, 1) := by decide +kernel
theorem d_M_isThere_10 : decode b_M_isThere 10 = .ok (.getfield 7, 3) := by decide +kernel
theorem d_M_isThere_13 : decode b_M_isThere 13 = .ok (.iload_n 1, 1) := by decide +kernel
theorem d_M_isThere_14 : decode b_M_isThere 14 = .ok (.baload, 1) := by decide +kernel
theorem d_M_isThere_15 : decode b_M_isThere 15 = .ok (.ifCond .eq 7, 3) := by decide +kernel
theorem d_M_isThere_18 : decode b_M_isThere 18 = .ok (.iconst 1, 1) := by decide +kernel
theorem d_M_isThere_19 : decode b_M_isThere 19 = .ok (.goto 4, 3) := by decide +kernel
theorem d_M_isThere_22 : decode b_M_isThere 22 = .ok (.iconst 0, 1) := by decide +kernel
theorem d_M_isThere_23 : decode b_M_isThere 23 = .ok (.ireturn, 1) := by decide +kernel
theorem d_M_term_0 : decode b_M_term 0 = .ok (.aload_n 0, 1) := by decide +kernel
theorem d_M_term_1 : decode b_M_term 1 = .ok (.iload_n 1, 1) := by decide +kernel
theorem d_M_term_2 : decode b_M_term 2 = .ok (.invokevirtual 62, 3) := by decide +kernel
theorem d_M_term_5 : decode b_M_term 5 = .ok (.ifCond .eq 21, 3) := by decide +kernel
theorem d_M_term_8 : decode b_M_term 8 = .ok (.iload_n 2, 1) := by decide +kernel
theorem d_M_term_9 : decode b_M_term 9 = .ok (.bipush 12, 2) := by decide +kernel
theorem d_M_term_11 : decode b_M_term 11 = .ok (.invokestatic 58, 3) := by decide +kernel
theorem d_M_term_14 : decode b_M_term 14 = .ok (.ifCond .eq 12, 3) := by decide +kernel
theorem d_M_term_17 : decode b_M_term 17 = .ok (.iload_n 3, 1) := by decide +kernel
theorem d_M_term_18 : decode b_M_term 18 = .ok (.bipush 16, 2) := by decide +kernel
theorem d_M_term_20 : decode b_M_term 20 = .ok (.invokestatic 58, 3) := by decide +kernel
theorem d_M_term_23 : decode b_M_term 23 = .ok (.ifCond .ne 5, 3) := by decide +kernel
theorem d_M_term_26 : decode b_M_term 26 = .ok (.iconst (-1), 1) := by decide +kernel
theorem d_M_term_27 : decode b_M_term 27 = .ok (.ireturn, 1) := by decide +kernel
theorem d_M_term_28 : decode b_M_term 28 = .ok (.aload_n 0, 1) := by decide +kernel
theorem d_M_term_29 : decode b_M_term 29 = .ok (.getfield 17, 3) := by decide +kernel
theorem d_M_term_32 : decode b_M_term 32 = .ok (.iload_n 1, 1) := by decide +kernel
theorem d_M_term_33 : decode b_M_term 33 = .ok (.bipush 12, 2) := by decide +kernel
theorem d_M_term_35 : decode b_M_term 35 = .ok (.imul, 1) := by decide +kernel
theorem d_M_term_36 : decode b_M_term 36 = .ok (.iload_n 2, 1) := by decide +kernel
theorem d_M_term_37 : decode b_M_term 37 = .ok (.iadd, 1) := by decide +kernel
theorem d_M_term_38 : decode b_M_term 38 = .ok (.iload_n 3, 1) := by decide +kernel
theorem d_M_term_39 : decode b_M_term 39 = .ok (.iastore, 1) := by decide +kernel
theorem d_M_term_40 : decode b_M_term 40 = .ok (.iconst 0, 1) := by decide +kernel
theorem d_M_term_41 : decode b_M_term 41 = .ok (.ireturn, 1) := by decide +kernel
theorem d_M_query_0 : decode b_M_query 0 = .ok (.iload_n 1, 1) := by decide +kernel
theorem d_M_query_1 : decode b_M_query 1 = .ok (.bipush 8, 2) := by decide +kernel
theorem d_M_query_3 : decode b_M_query 3 = .ok (.invokestatic 58, 3) := by decide +kernel
theorem d_M_query_6 : decode b_M_query 6 = .ok (.ifCond .eq 13, 3) := by decide +kernel
theorem d_M_query_9 : decode b_M_query 9 = .ok (.iload_n 2, 1) := by decide +kernel
theorem d_M_query_10 : decode b_M_query 10 = .ok (.sipush 4096, 3) := by decide +kernel
theorem d_M_query_13 : decode b_M_query 13 = .ok (.invokestatic 58, 3) := by decide +kernel
theorem d_M_query_16 : decode b_M_query 16 = .ok (.ifCond .ne 5, 3) := by decide +kernel
theorem d_M_query_19 : decode b_M_query 19 = .ok (.iconst (-1), 1) := by decide +kernel
theorem d_M_query_20 : decode b_M_query 20 = .ok (.ireturn, 1) := by decide +kernel
theorem d_M_query_21 : decode b_M_query 21 = .ok (.aload_n 0, 1) := by decide +kernel
theorem d_M_query_22 : decode b_M_query 22 = .ok (.getfield 20, 3) := by decide +kernel
theorem d_M_query_25 : decode b_M_query 25 = .ok (.iload_n 1, 1) := by decide +kernel
theorem d_M_query_26 : decode b_M_query 26 = .ok (.iload_n 2, 1) := by decide +kernel
theorem d_M_query_27 : decode b_M_query 27 = .ok (.iastore, 1) := by decide +kernel
theorem d_M_query_28 : decode b_M_query 28 = .ok (.iconst 0, 1) := by decide +kernel
theorem d_M_query_29 : decode b_M_query 29 = .ok (.ireturn, 1) := by decide +kernel
theorem d_M_judge_0 : decode b_M_judge 0 = .ok (.iload_n 1, 1) := by decide +kernel
theorem d_M_judge_1 : decode b_M_judge 1 = .ok (.bipush 8, 2) := by decide +kernel
theorem d_M_judge_3 : decode b_M_judge 3 = .ok (.invokestatic 58, 3) := by decide +kernel
theorem d_M_judge_6 : decode b_M_judge 6 = .ok (.ifCond .eq 23, 3) := by decide +kernel
theorem d_M_judge_9 : decode b_M_judge 9 = .ok (.iload_n 2, 1) := by decide +kernel
theorem d_M_judge_10 : decode b_M_judge 10 = .ok (.bipush 16, 2) := by decide +kernel
theorem d_M_judge_12 : decode b_M_judge 12 = .ok (.invokestatic 58, 3) := by decide +kernel
theorem d_M_judge_15 : decode b_M_judge 15 = .ok (.ifCond .eq 14, 3) := by decide +kernel
theorem d_M_judge_18 : decode b_M_judge 18 = .ok (.iload_n 3, 1) := by decide +kernel
theorem d_M_judge_19 : decode b_M_judge 19 = .ok (.iconst (-1), 1) := by decide +kernel
theorem d_M_judge_20 : decode b_M_judge 20 = .ok (.if_icmp .lt 9, 3) := by decide +kernel
theorem d_M_judge_23 : decode b_M_judge 23 = .ok (.iload_n 3, 1) := by decide +kernel
theorem d_M_judge_24 : decode b_M_judge 24 = .ok (.bipush 7, 2) := by decide +kernel
theorem d_M_judge_26 : decode b_M_judge 26 = .ok (.if_icmp .le 5, 3) := by decide +kernel
theorem d_M_judge_29 : decode b_M_judge 29 = .ok (.iconst (-1), 1) := by decide +kernel
theorem d_M_judge_30 : decode b_M_judge 30 = .ok (.ireturn, 1) := by decide +kernel
theorem d_M_judge_31 : decode b_M_judge 31 = .ok (.iload_n 1, 1) := by decide +kernel
theorem d_M_judge_32 : decode b_M_judge 32 = .ok (.bipush 16, 2) := by decide +kernel
theorem d_M_judge_34 : decode b_M_judge 34 = .ok (.imul, 1) := by decide +kernel
theorem d_M_judge_35 : decode b_M_judge 35 = .ok (.iload_n 2, 1) := by decide +kernel
theorem d_M_judge_36 : decode b_M_judge 36 = .ok (.iadd, 1) := by decide +kernel
theorem d_M_judge_37 : decode b_M_judge 37 = .ok (.istore 4, 2) := by decide +kernel
theorem d_M_judge_39 : decode b_M_judge 39 = .ok (.aload_n 0, 1) := by decide +kernel
theorem d_M_judge_40 : decode b_M_judge 40 = .ok (.getfield 23, 3) := by decide +kernel
theorem d_M_judge_43 : decode b_M_judge 43 = .ok (.iload 4, 2) := by decide +kernel
theorem d_M_judge_45 : decode b_M_judge 45 = .ok (.iaload, 1) := by decide +kernel
theorem d_M_judge_46 : decode b_M_judge 46 = .ok (.ifCond .ge 19, 3) := by decide +kernel
theorem d_M_judge_49 : decode b_M_judge 49 = .ok (.iload_n 3, 1) := by decide +kernel
theorem d_M_judge_50 : decode b_M_judge 50 = .ok (.ifCond .lt 15, 3) := by decide +kernel
theorem d_M_judge_53 : decode b_M_judge 53 = .ok (.aload_n 0, 1) := by decide +kernel
theorem d_M_judge_54 : decode b_M_judge 54 = .ok (.invokevirtual 66, 3) := by decide +kernel
theorem d_M_judge_57 : decode b_M_judge 57 = .ok (.bipush 16, 2) := by decide +kernel
theorem d_M_judge_59 : decode b_M_judge 59 = .ok (.if_icmp .ne 6, 3) := by decide +kernel
theorem d_M_judge_62 : decode b_M_judge 62 = .ok (.bipush (-2), 2) := by decide +kernel
theorem d_M_judge_64 : decode b_M_judge 64 = .ok (.ireturn, 1) := by decide +kernel
theorem d_M_judge_65 : decode b_M_judge 65 = .ok (.aload_n 0, 1) := by decide +kernel
theorem d_M_judge_66 : decode b_M_judge 66 = .ok (.getfield 23, 3) := by decide +kernel
theorem d_M_judge_69 : decode b_M_judge 69 = .ok (.iload 4, 2) := by decide +kernel
theorem d_M_judge_71 : decode b_M_judge 71 = .ok (.iload_n 3, 1) := by decide +kernel
theorem d_M_judge_72 : decode b_M_judge 72 = .ok (.iastore, 1) := by decide +kernel
theorem d_M_judge_73 : decode b_M_judge 73 = .ok (.iconst 0, 1) := by decide +kernel
theorem d_M_judge_74 : decode b_M_judge 74 = .ok (.ireturn, 1) := by decide +kernel
theorem d_M_judgements_0 : decode b_M_judgements 0 = .ok (.iconst 0, 1) := by decide +kernel
theorem d_M_judgements_1 : decode b_M_judgements 1 = .ok (.istore_n 1, 1) := by decide +kernel
theorem d_M_judgements_2 : decode b_M_judgements 2 = .ok (.iconst 0, 1) := by decide +kernel
theorem d_M_judgements_3 : decode b_M_judgements 3 = .ok (.istore_n 2, 1) := by decide +kernel
theorem d_M_judgements_4 : decode b_M_judgements 4 = .ok (.iload_n 2, 1) := by decide +kernel
theorem d_M_judgements_5 : decode b_M_judgements 5 = .ok (.sipush 128, 3) := by decide +kernel
theorem d_M_judgements_8 : decode b_M_judgements 8 = .ok (.if_icmp .ge 21, 3) := by decide +kernel
theorem d_M_judgements_11 : decode b_M_judgements 11 = .ok (.aload_n 0, 1) := by decide +kernel
theorem d_M_judgements_12 : decode b_M_judgements 12 = .ok (.getfield 23, 3) := by decide +kernel
theorem d_M_judgements_15 : decode b_M_judgements 15 = .ok (.iload_n 2, 1) := by decide +kernel
theorem d_M_judgements_16 : decode b_M_judgements 16 = .ok (.iaload, 1) := by decide +kernel
theorem d_M_judgements_17 : decode b_M_judgements 17 = .ok (.ifCond .lt 6, 3) := by decide +kernel
theorem d_M_judgements_20 : decode b_M_judgements 20 = .ok (.iinc 1 1, 3) := by decide +kernel
theorem d_M_judgements_23 : decode b_M_judgements 23 = .ok (.iinc 2 1, 3) := by decide +kernel
theorem d_M_judgements_26 : decode b_M_judgements 26 = .ok (.goto (-22), 3) := by decide +kernel
theorem d_M_judgements_29 : decode b_M_judgements 29 = .ok (.iload_n 1, 1) := by decide +kernel
theorem d_M_judgements_30 : decode b_M_judgements 30 = .ok (.ireturn, 1) := by decide +kernel
theorem d_M_depth_0 : decode b_M_depth 0 = .ok (.iload_n 1, 1) := by decide +kernel
theorem d_M_depth_1 : decode b_M_depth 1 = .ok (.iconst 1, 1) := by decide +kernel
theorem d_M_depth_2 : decode b_M_depth 2 = .ok (.if_icmp .lt 9, 3) := by decide +kernel
theorem d_M_depth_5 : decode b_M_depth 5 = .ok (.iload_n 1, 1) := by decide +kernel
theorem d_M_depth_6 : decode b_M_depth 6 = .ok (.bipush 16, 2) := by decide +kernel
theorem d_M_depth_8 : decode b_M_depth 8 = .ok (.if_icmp .le 5, 3) := by decide +kernel
theorem d_M_depth_11 : decode b_M_depth 11 = .ok (.iconst (-1), 1) := by decide +kernel
theorem d_M_depth_12 : decode b_M_depth 12 = .ok (.ireturn, 1) := by decide +kernel
theorem d_M_depth_13 : decode b_M_depth 13 = .ok (.aload_n 0, 1) := by decide +kernel
theorem d_M_depth_14 : decode b_M_depth 14 = .ok (.iload_n 1, 1) := by decide +kernel
theorem d_M_depth_15 : decode b_M_depth 15 = .ok (.putfield 26, 3) := by decide +kernel
theorem d_M_depth_18 : decode b_M_depth 18 = .ok (.iconst 0, 1) := by decide +kernel
theorem d_M_depth_19 : decode b_M_depth 19 = .ok (.ireturn, 1) := by decide +kernel
theorem d_M_train_0 : decode b_M_train 0 = .ok (.iload_n 1, 1) := by decide +kernel
theorem d_M_train_1 : decode b_M_train 1 = .ok (.ifCond .lt 28, 3) := by decide +kernel
theorem d_M_train_4 : decode b_M_train 4 = .ok (.iload_n 1, 1) := by decide +kernel
theorem d_M_train_5 : decode b_M_train 5 = .ok (.iconst 4, 1) := by decide +kernel
theorem d_M_train_6 : decode b_M_train 6 = .ok (.if_icmp .gt 23, 3) := by decide +kernel
theorem d_M_train_9 : decode b_M_train 9 = .ok (.iload_n 2, 1) := by decide +kernel
theorem d_M_train_10 : decode b_M_train 10 = .ok (.ifCond .lt 19, 3) := by decide +kernel
theorem d_M_train_13 : decode b_M_train 13 = .ok (.iload_n 2, 1) := by decide +kernel
theorem d_M_train_14 : decode b_M_train 14 = .ok (.iconst 2, 1) := by decide +kernel
theorem d_M_train_15 : decode b_M_train 15 = .ok (.if_icmp .gt 14, 3) := by decide +kernel
theorem d_M_train_18 : decode b_M_train 18 = .ok (.iload_n 3, 1) := by decide +kernel
theorem d_M_train_19 : decode b_M_train 19 = .ok (.iconst 1, 1) := by decide +kernel
theorem d_M_train_20 : decode b_M_train 20 = .ok (.if_icmp .lt 9, 3) := by decide +kernel
theorem d_M_train_23 : decode b_M_train 23 = .ok (.iload_n 3, 1) := by decide +kernel
theorem d_M_train_24 : decode b_M_train 24 = .ok (.bipush 8, 2) := by decide +kernel
theorem d_M_train_26 : decode b_M_train 26 = .ok (.if_icmp .le 5, 3) := by decide +kernel
theorem d_M_train_29 : decode b_M_train 29 = .ok (.iconst (-1), 1) := by decide +kernel
theorem d_M_train_30 : decode b_M_train 30 = .ok (.ireturn, 1) := by decide +kernel
theorem d_M_train_31 : decode b_M_train 31 = .ok (.aload_n 0, 1) := by decide +kernel
theorem d_M_train_32 : decode b_M_train 32 = .ok (.iconst 0, 1) := by decide +kernel
theorem d_M_train_33 : decode b_M_train 33 = .ok (.putfield 70, 3) := by decide +kernel
theorem d_M_train_36 : decode b_M_train 36 = .ok (.iconst 0, 1) := by decide +kernel
theorem d_M_train_37 : decode b_M_train 37 = .ok (.istore 4, 2) := by decide +kernel
theorem d_M_train_39 : decode b_M_train 39 = .ok (.iload 4, 2) := by decide +kernel
theorem d_M_train_41 : decode b_M_train 41 = .ok (.sipush 128, 3) := by decide +kernel
theorem d_M_train_44 : decode b_M_train 44 = .ok (.if_icmp .ge 111, 3) := by decide +kernel
theorem d_M_train_47 : decode b_M_train 47 = .ok (.aload_n 0, 1) := by decide +kernel
theorem d_M_train_48 : decode b_M_train 48 = .ok (.getfield 23, 3) := by decide +kernel
theorem d_M_train_51 : decode b_M_train 51 = .ok (.iload 4, 2) := by decide +kernel
theorem d_M_train_53 : decode b_M_train 53 = .ok (.iaload, 1) := by decide +kernel
theorem d_M_train_54 : decode b_M_train 54 = .ok (.ifCond .lt 95, 3) := by decide +kernel
theorem d_M_train_57 : decode b_M_train 57 = .ok (.aload_n 0, 1) := by decide +kernel
theorem d_M_train_58 : decode b_M_train 58 = .ok (.getfield 7, 3) := by decide +kernel
theorem d_M_train_61 : decode b_M_train 61 = .ok (.iload 4, 2) := by decide +kernel
theorem d_M_train_63 : decode b_M_train 63 = .ok (.bipush 16, 2) := by decide +kernel
theorem d_M_train_65 : decode b_M_train 65 = .ok (.irem, 1) := by decide +kernel
theorem d_M_train_66 : decode b_M_train 66 = .ok (.baload, 1) := by decide +kernel
theorem d_M_train_67 : decode b_M_train 67 = .ok (.ifCond .ne 6, 3) := by decide +kernel
theorem d_M_train_70 : decode b_M_train 70 = .ok (.goto 79, 3) := by decide +kernel
theorem d_M_train_73 : decode b_M_train 73 = .ok (.iconst 0, 1) := by decide +kernel
theorem d_M_train_74 : decode b_M_train 74 = .ok (.istore 5, 2) := by decide +kernel
theorem d_M_train_76 : decode b_M_train 76 = .ok (.iload 5, 2) := by decide +kernel
theorem d_M_train_78 : decode b_M_train 78 = .ok (.iconst 5, 1) := by decide +kernel
theorem d_M_train_79 : decode b_M_train 79 = .ok (.if_icmp .ge 39, 3) := by decide +kernel
theorem d_M_train_82 : decode b_M_train 82 = .ok (.aload_n 0, 1) := by decide +kernel
theorem d_M_train_83 : decode b_M_train 83 = .ok (.getfield 43, 3) := by decide +kernel
theorem d_M_train_86 : decode b_M_train 86 = .ok (.aload_n 0, 1) := by decide +kernel
theorem d_M_train_87 : decode b_M_train 87 = .ok (.getfield 70, 3) := by decide +kernel
theorem d_M_train_90 : decode b_M_train 90 = .ok (.iconst 5, 1) := by decide +kernel
theorem d_M_train_91 : decode b_M_train 91 = .ok (.imul, 1) := by decide +kernel
theorem d_M_train_92 : decode b_M_train 92 = .ok (.iload 5, 2) := by decide +kernel
theorem d_M_train_94 : decode b_M_train 94 = .ok (.iadd, 1) := by decide +kernel
theorem d_M_train_95 : decode b_M_train 95 = .ok (.aload_n 0, 1) := by decide +kernel
theorem d_M_train_96 : decode b_M_train 96 = .ok (.iload 4, 2) := by decide +kernel
theorem d_M_train_98 : decode b_M_train 98 = .ok (.bipush 16, 2) := by decide +kernel
theorem d_M_train_100 : decode b_M_train 100 = .ok (.idiv, 1) := by decide +kernel
theorem d_M_train_101 : decode b_M_train 101 = .ok (.iload 4, 2) := by decide +kernel
theorem d_M_train_103 : decode b_M_train 103 = .ok (.bipush 16, 2) := by decide +kernel
theorem d_M_train_105 : decode b_M_train 105 = .ok (.irem, 1) := by decide +kernel
theorem d_M_train_106 : decode b_M_train 106 = .ok (.iload 5, 2) := by decide +kernel
theorem d_M_train_108 : decode b_M_train 108 = .ok (.invokevirtual 106, 3) := by decide +kernel
theorem d_M_train_111 : decode b_M_train 111 = .ok (.iastore, 1) := by decide +kernel
theorem d_M_train_112 : decode b_M_train 112 = .ok (.iinc 5 1, 3) := by decide +kernel
theorem d_M_train_115 : decode b_M_train 115 = .ok (.goto (-39), 3) := by decide +kernel
theorem d_M_train_118 : decode b_M_train 118 = .ok (.aload_n 0, 1) := by decide +kernel
theorem d_M_train_119 : decode b_M_train 119 = .ok (.getfield 49, 3) := by decide +kernel
theorem d_M_train_122 : decode b_M_train 122 = .ok (.aload_n 0, 1) := by decide +kernel
theorem d_M_train_123 : decode b_M_train 123 = .ok (.getfield 70, 3) := by decide +kernel
theorem d_M_train_126 : decode b_M_train 126 = .ok (.aload_n 0, 1) := by decide +kernel
theorem d_M_train_127 : decode b_M_train 127 = .ok (.getfield 23, 3) := by decide +kernel
theorem d_M_train_130 : decode b_M_train 130 = .ok (.iload 4, 2) := by decide +kernel
theorem d_M_train_132 : decode b_M_train 132 = .ok (.iaload, 1) := by decide +kernel
theorem d_M_train_133 : decode b_M_train 133 = .ok (.i2l, 1) := by decide +kernel
theorem d_M_train_134 : decode b_M_train 134 = .ok (.ldc2_w 110, 3) := by decide +kernel
theorem d_M_train_137 : decode b_M_train 137 = .ok (.lmul, 1) := by decide +kernel
theorem d_M_train_138 : decode b_M_train 138 = .ok (.lastore, 1) := by decide +kernel
theorem d_M_train_139 : decode b_M_train 139 = .ok (.aload_n 0, 1) := by decide +kernel
theorem d_M_train_140 : decode b_M_train 140 = .ok (.dup, 1) := by decide +kernel
theorem d_M_train_141 : decode b_M_train 141 = .ok (.getfield 70, 3) := by decide +kernel
theorem d_M_train_144 : decode b_M_train 144 = .ok (.iconst 1, 1) := by decide +kernel
theorem d_M_train_145 : decode b_M_train 145 = .ok (.iadd, 1) := by decide +kernel
theorem d_M_train_146 : decode b_M_train 146 = .ok (.putfield 70, 3) := by decide +kernel
theorem d_M_train_149 : decode b_M_train 149 = .ok (.iinc 4 1, 3) := by decide +kernel
theorem d_M_train_152 : decode b_M_train 152 = .ok (.goto (-113), 3) := by decide +kernel
theorem d_M_train_155 : decode b_M_train 155 = .ok (.aload_n 0, 1) := by decide +kernel
theorem d_M_train_156 : decode b_M_train 156 = .ok (.aload_n 0, 1) := by decide +kernel
theorem d_M_train_157 : decode b_M_train 157 = .ok (.getfield 70, 3) := by decide +kernel
theorem d_M_train_160 : decode b_M_train 160 = .ok (.ifCond .ne 7, 3) := by decide +kernel
theorem d_M_train_163 : decode b_M_train 163 = .ok (.iconst 0, 1) := by decide +kernel
theorem d_M_train_164 : decode b_M_train 164 = .ok (.goto 4, 3) := by decide +kernel
theorem d_M_train_167 : decode b_M_train 167 = .ok (.iload_n 1, 1) := by decide +kernel
theorem d_M_train_168 : decode b_M_train 168 = .ok (.putfield 103, 3) := by decide +kernel
theorem d_M_train_171 : decode b_M_train 171 = .ok (.iconst 0, 1) := by decide +kernel
theorem d_M_train_172 : decode b_M_train 172 = .ok (.istore 4, 2) := by decide +kernel
theorem d_M_train_174 : decode b_M_train 174 = .ok (.iload 4, 2) := by decide +kernel
theorem d_M_train_176 : decode b_M_train 176 = .ok (.aload_n 0, 1) := by decide +kernel
theorem d_M_train_177 : decode b_M_train 177 = .ok (.getfield 103, 3) := by decide +kernel
theorem d_M_train_180 : decode b_M_train 180 = .ok (.if_icmp .ge 17, 3) := by decide +kernel
theorem d_M_train_183 : decode b_M_train 183 = .ok (.aload_n 0, 1) := by decide +kernel
theorem d_M_train_184 : decode b_M_train 184 = .ok (.iload 4, 2) := by decide +kernel
theorem d_M_train_186 : decode b_M_train 186 = .ok (.iload_n 2, 1) := by decide +kernel
theorem d_M_train_187 : decode b_M_train 187 = .ok (.iload_n 3, 1) := by decide +kernel
theorem d_M_train_188 : decode b_M_train 188 = .ok (.invokevirtual 112, 3) := by decide +kernel
theorem d_M_train_191 : decode b_M_train 191 = .ok (.iinc 4 1, 3) := by decide +kernel
theorem d_M_train_194 : decode b_M_train 194 = .ok (.goto (-20), 3) := by decide +kernel
theorem d_M_train_197 : decode b_M_train 197 = .ok (.aload_n 0, 1) := by decide +kernel
theorem d_M_train_198 : decode b_M_train 198 = .ok (.iconst 1, 1) := by decide +kernel
theorem d_M_train_199 : decode b_M_train 199 = .ok (.invokevirtual 116, 3) := by decide +kernel
theorem d_M_train_202 : decode b_M_train 202 = .ok (.ireturn, 1) := by decide +kernel
theorem d_M_featureOf_0 : decode b_M_featureOf 0 = .ok (.iload_n 3, 1) := by decide +kernel
theorem d_M_featureOf_1 : decode b_M_featureOf 1 = .ok (.iconst 3, 1) := by decide +kernel
theorem d_M_featureOf_2 : decode b_M_featureOf 2 = .ok (.if_icmp .ne 10, 3) := by decide +kernel
theorem d_M_featureOf_5 : decode b_M_featureOf 5 = .ok (.aload_n 0, 1) := by decide +kernel
theorem d_M_featureOf_6 : decode b_M_featureOf 6 = .ok (.getfield 13, 3) := by decide +kernel
theorem d_M_featureOf_9 : decode b_M_featureOf 9 = .ok (.iload_n 2, 1) := by decide +kernel
theorem d_M_featureOf_10 : decode b_M_featureOf 10 = .ok (.iaload, 1) := by decide +kernel
theorem d_M_featureOf_11 : decode b_M_featureOf 11 = .ok (.ireturn, 1) := by decide +kernel
theorem d_M_featureOf_12 : decode b_M_featureOf 12 = .ok (.iconst 0, 1) := by decide +kernel
theorem d_M_featureOf_13 : decode b_M_featureOf 13 = .ok (.istore 4, 2) := by decide +kernel
theorem d_M_featureOf_15 : decode b_M_featureOf 15 = .ok (.iconst 0, 1) := by decide +kernel
theorem d_M_featureOf_16 : decode b_M_featureOf 16 = .ok (.istore 5, 2) := by decide +kernel
theorem d_M_featureOf_18 : decode b_M_featureOf 18 = .ok (.iconst 0, 1) := by decide +kernel
theorem d_M_featureOf_19 : decode b_M_featureOf 19 = .ok (.istore 6, 2) := by decide +kernel
theorem d_M_featureOf_21 : decode b_M_featureOf 21 = .ok (.iconst 0, 1) := by decide +kernel
theorem d_M_featureOf_22 : decode b_M_featureOf 22 = .ok (.istore 7, 2) := by decide +kernel
theorem d_M_featureOf_24 : decode b_M_featureOf 24 = .ok (.iconst 0, 1) := by decide +kernel
theorem d_M_featureOf_25 : decode b_M_featureOf 25 = .ok (.istore 8, 2) := by decide +kernel
theorem d_M_featureOf_27 : decode b_M_featureOf 27 = .ok (.iload 8, 2) := by decide +kernel
theorem d_M_featureOf_29 : decode b_M_featureOf 29 = .ok (.bipush 12, 2) := by decide +kernel
theorem d_M_featureOf_31 : decode b_M_featureOf 31 = .ok (.if_icmp .ge 73, 3) := by decide +kernel
theorem d_M_featureOf_34 : decode b_M_featureOf 34 = .ok (.aload_n 0, 1) := by decide +kernel
theorem d_M_featureOf_35 : decode b_M_featureOf 35 = .ok (.getfield 17, 3) := by decide +kernel
theorem d_M_featureOf_38 : decode b_M_featureOf 38 = .ok (.iload_n 2, 1) := by decide +kernel
theorem d_M_featureOf_39 : decode b_M_featureOf 39 = .ok (.bipush 12, 2) := by decide +kernel
theorem d_M_featureOf_41 : decode b_M_featureOf 41 = .ok (.imul, 1) := by decide +kernel
theorem d_M_featureOf_42 : decode b_M_featureOf 42 = .ok (.iload 8, 2) := by decide +kernel
theorem d_M_featureOf_44 : decode b_M_featureOf 44 = .ok (.iadd, 1) := by decide +kernel
theorem d_M_featureOf_45 : decode b_M_featureOf 45 = .ok (.iaload, 1) := by decide +kernel
theorem d_M_featureOf_46 : decode b_M_featureOf 46 = .ok (.istore 9, 2) := by decide +kernel
theorem d_M_featureOf_48 : decode b_M_featureOf 48 = .ok (.iload 6, 2) := by decide +kernel
theorem d_M_featureOf_50 : decode b_M_featureOf 50 = .ok (.iload 9, 2) := by decide +kernel
theorem d_M_featureOf_52 : decode b_M_featureOf 52 = .ok (.iadd, 1) := by decide +kernel
theorem d_M_featureOf_53 : decode b_M_featureOf 53 = .ok (.istore 6, 2) := by decide +kernel
theorem d_M_featureOf_55 : decode b_M_featureOf 55 = .ok (.aload_n 0, 1) := by decide +kernel
theorem d_M_featureOf_56 : decode b_M_featureOf 56 = .ok (.getfield 20, 3) := by decide +kernel
theorem d_M_featureOf_59 : decode b_M_featureOf 59 = .ok (.iload_n 1, 1) := by decide +kernel
theorem d_M_featureOf_60 : decode b_M_featureOf 60 = .ok (.iaload, 1) := by decide +kernel
theorem d_M_featureOf_61 : decode b_M_featureOf 61 = .ok (.iload 8, 2) := by decide +kernel
theorem d_M_featureOf_63 : decode b_M_featureOf 63 = .ok (.ishr, 1) := by decide +kernel
theorem d_M_featureOf_64 : decode b_M_featureOf 64 = .ok (.iconst 1, 1) := by decide +kernel
theorem d_M_featureOf_65 : decode b_M_featureOf 65 = .ok (.iand, 1) := by decide +kernel
theorem d_M_featureOf_66 : decode b_M_featureOf 66 = .ok (.ifCond .eq 32, 3) := by decide +kernel
theorem d_M_featureOf_69 : decode b_M_featureOf 69 = .ok (.iload 9, 2) := by decide +kernel
theorem d_M_featureOf_71 : decode b_M_featureOf 71 = .ok (.ifCond .ne 6, 3) := by decide +kernel
theorem d_M_featureOf_74 : decode b_M_featureOf 74 = .ok (.goto 24, 3) := by decide +kernel
theorem d_M_featureOf_77 : decode b_M_featureOf 77 = .ok (.iinc 4 1, 3) := by decide +kernel
theorem d_M_featureOf_80 : decode b_M_featureOf 80 = .ok (.iload 5, 2) := by decide +kernel
theorem d_M_featureOf_82 : decode b_M_featureOf 82 = .ok (.iload 9, 2) := by decide +kernel
theorem d_M_featureOf_84 : decode b_M_featureOf 84 = .ok (.iadd, 1) := by decide +kernel
theorem d_M_featureOf_85 : decode b_M_featureOf 85 = .ok (.istore 5, 2) := by decide +kernel
theorem d_M_featureOf_87 : decode b_M_featureOf 87 = .ok (.iload 9, 2) := by decide +kernel
theorem d_M_featureOf_89 : decode b_M_featureOf 89 = .ok (.iload 7, 2) := by decide +kernel
theorem d_M_featureOf_91 : decode b_M_featureOf 91 = .ok (.if_icmp .le 7, 3) := by decide +kernel
theorem d_M_featureOf_94 : decode b_M_featureOf 94 = .ok (.iload 9, 2) := by decide +kernel
theorem d_M_featureOf_96 : decode b_M_featureOf 96 = .ok (.istore 7, 2) := by decide +kernel
theorem d_M_featureOf_98 : decode b_M_featureOf 98 = .ok (.iinc 8 1, 3) := by decide +kernel
theorem d_M_featureOf_101 : decode b_M_featureOf 101 = .ok (.goto (-74), 3) := by decide +kernel
theorem d_M_featureOf_104 : decode b_M_featureOf 104 = .ok (.iload_n 3, 1) := by decide +kernel
theorem d_M_featureOf_105 : decode b_M_featureOf 105 = .ok (.ifCond .ne 8, 3) := by decide +kernel
theorem d_M_featureOf_108 : decode b_M_featureOf 108 = .ok (.iload 4, 2) := by decide +kernel
theorem d_M_featureOf_110 : decode b_M_featureOf 110 = .ok (.goto 25, 3) := by decide +kernel
theorem d_M_featureOf_113 : decode b_M_featureOf 113 = .ok (.iload_n 3, 1) := by decide +kernel
theorem d_M_featureOf_114 : decode b_M_featureOf 114 = .ok (.iconst 1, 1) := by decide +kernel
theorem d_M_featureOf_115 : decode b_M_featureOf 115 = .ok (.if_icmp .ne 8, 3) := by decide +kernel
theorem d_M_featureOf_118 : decode b_M_featureOf 118 = .ok (.iload 5, 2) := by decide +kernel
theorem d_M_featureOf_120 : decode b_M_featureOf 120 = .ok (.goto 15, 3) := by decide +kernel
theorem d_M_featureOf_123 : decode b_M_featureOf 123 = .ok (.iload_n 3, 1) := by decide +kernel
theorem d_M_featureOf_124 : decode b_M_featureOf 124 = .ok (.iconst 2, 1) := by decide +kernel
theorem d_M_featureOf_125 : decode b_M_featureOf 125 = .ok (.if_icmp .ne 8, 3) := by decide +kernel
theorem d_M_featureOf_128 : decode b_M_featureOf 128 = .ok (.iload 6, 2) := by decide +kernel
theorem d_M_featureOf_130 : decode b_M_featureOf 130 = .ok (.goto 5, 3) := by decide +kernel
theorem d_M_featureOf_133 : decode b_M_featureOf 133 = .ok (.iload 7, 2) := by decide +kernel
theorem d_M_featureOf_135 : decode b_M_featureOf 135 = .ok (.ireturn, 1) := by decide +kernel
theorem d_M_grow_0 : decode b_M_grow 0 = .ok (.iconst 0, 1) := by decide +kernel
theorem d_M_grow_1 : decode b_M_grow 1 = .ok (.istore 4, 2) := by decide +kernel
theorem d_M_grow_3 : decode b_M_grow 3 = .ok (.iload 4, 2) := by decide +kernel
theorem d_M_grow_5 : decode b_M_grow 5 = .ok (.aload_n 0, 1) := by decide +kernel
theorem d_M_grow_6 : decode b_M_grow 6 = .ok (.getfield 70, 3) := by decide +kernel
theorem d_M_grow_9 : decode b_M_grow 9 = .ok (.if_icmp .ge 17, 3) := by decide +kernel
theorem d_M_grow_12 : decode b_M_grow 12 = .ok (.aload_n 0, 1) := by decide +kernel
theorem d_M_grow_13 : decode b_M_grow 13 = .ok (.getfield 46, 3) := by decide +kernel
theorem d_M_grow_16 : decode b_M_grow 16 = .ok (.iload 4, 2) := by decide +kernel
theorem d_M_grow_18 : decode b_M_grow 18 = .ok (.iconst 0, 1) := by decide +kernel
theorem d_M_grow_19 : decode b_M_grow 19 = .ok (.iastore, 1) := by decide +kernel
theorem d_M_grow_20 : decode b_M_grow 20 = .ok (.iinc 4 1, 3) := by decide +kernel
theorem d_M_grow_23 : decode b_M_grow 23 = .ok (.goto (-20), 3) := by decide +kernel
theorem d_M_grow_26 : decode b_M_grow 26 = .ok (.iconst 0, 1) := by decide +kernel
theorem d_M_grow_27 : decode b_M_grow 27 = .ok (.istore 4, 2) := by decide +kernel
theorem d_M_grow_29 : decode b_M_grow 29 = .ok (.iload 4, 2) := by decide +kernel
theorem d_M_grow_31 : decode b_M_grow 31 = .ok (.bipush 7, 2) := by decide +kernel
theorem d_M_grow_33 : decode b_M_grow 33 = .ok (.if_icmp .ge 60, 3) := by decide +kernel
theorem d_M_grow_36 : decode b_M_grow 36 = .ok (.iload_n 1, 1) := by decide +kernel
theorem d_M_grow_37 : decode b_M_grow 37 = .ok (.bipush 7, 2) := by decide +kernel
theorem d_M_grow_39 : decode b_M_grow 39 = .ok (.imul, 1) := by decide +kernel
theorem d_M_grow_40 : decode b_M_grow 40 = .ok (.iload 4, 2) := by decide +kernel
theorem d_M_grow_42 : decode b_M_grow 42 = .ok (.iconst 1, 1) := by decide +kernel
theorem d_M_grow_43 : decode b_M_grow 43 = .ok (.isub, 1) := by decide +kernel
theorem d_M_grow_44 : decode b_M_grow 44 = .ok (.iconst 2, 1) := by decide +kernel
theorem d_M_grow_45 : decode b_M_grow 45 = .ok (.idiv, 1) := by decide +kernel
theorem d_M_grow_46 : decode b_M_grow 46 = .ok (.iadd, 1) := by decide +kernel
theorem d_M_grow_47 : decode b_M_grow 47 = .ok (.istore 5, 2) := by decide +kernel
theorem d_M_grow_49 : decode b_M_grow 49 = .ok (.aload_n 0, 1) := by decide +kernel
theorem d_M_grow_50 : decode b_M_grow 50 = .ok (.getfield 30, 3) := by decide +kernel
theorem d_M_grow_53 : decode b_M_grow 53 = .ok (.iload_n 1, 1) := by decide +kernel
theorem d_M_grow_54 : decode b_M_grow 54 = .ok (.bipush 7, 2) := by decide +kernel
theorem d_M_grow_56 : decode b_M_grow 56 = .ok (.imul, 1) := by decide +kernel
theorem d_M_grow_57 : decode b_M_grow 57 = .ok (.iload 4, 2) := by decide +kernel
theorem d_M_grow_59 : decode b_M_grow 59 = .ok (.iadd, 1) := by decide +kernel
theorem d_M_grow_60 : decode b_M_grow 60 = .ok (.iconst 0, 1) := by decide +kernel
theorem d_M_grow_61 : decode b_M_grow 61 = .ok (.iastore, 1) := by decide +kernel
theorem d_M_grow_62 : decode b_M_grow 62 = .ok (.iload 4, 2) := by decide +kernel
theorem d_M_grow_64 : decode b_M_grow 64 = .ok (.ifCond .eq 14, 3) := by decide +kernel
theorem d_M_grow_67 : decode b_M_grow 67 = .ok (.aload_n 0, 1) := by decide +kernel
theorem d_M_grow_68 : decode b_M_grow 68 = .ok (.getfield 30, 3) := by decide +kernel
theorem d_M_grow_71 : decode b_M_grow 71 = .ok (.iload 5, 2) := by decide +kernel
theorem d_M_grow_73 : decode b_M_grow 73 = .ok (.iaload, 1) := by decide +kernel
theorem d_M_grow_74 : decode b_M_grow 74 = .ok (.iconst 2, 1) := by decide +kernel
theorem d_M_grow_75 : decode b_M_grow 75 = .ok (.if_icmp .ne 12, 3) := by decide +kernel
theorem d_M_grow_78 : decode b_M_grow 78 = .ok (.aload_n 0, 1) := by decide +kernel
theorem d_M_grow_79 : decode b_M_grow 79 = .ok (.iload_n 1, 1) := by decide +kernel
theorem d_M_grow_80 : decode b_M_grow 80 = .ok (.iload 4, 2) := by decide +kernel
theorem d_M_grow_82 : decode b_M_grow 82 = .ok (.iload_n 2, 1) := by decide +kernel
theorem d_M_grow_83 : decode b_M_grow 83 = .ok (.iload_n 3, 1) := by decide +kernel
theorem d_M_grow_84 : decode b_M_grow 84 = .ok (.invokevirtual 99, 3) := by decide +kernel
theorem d_M_grow_87 : decode b_M_grow 87 = .ok (.iinc 4 1, 3) := by decide +kernel
theorem d_M_grow_90 : decode b_M_grow 90 = .ok (.goto (-61), 3) := by decide +kernel
theorem d_M_grow_93 : decode b_M_grow 93 = .ok (.iconst 0, 1) := by decide +kernel
theorem d_M_grow_94 : decode b_M_grow 94 = .ok (.istore 4, 2) := by decide +kernel
theorem d_M_grow_96 : decode b_M_grow 96 = .ok (.iload 4, 2) := by decide +kernel
theorem d_M_grow_98 : decode b_M_grow 98 = .ok (.aload_n 0, 1) := by decide +kernel
theorem d_M_grow_99 : decode b_M_grow 99 = .ok (.getfield 70, 3) := by decide +kernel
theorem d_M_grow_102 : decode b_M_grow 102 = .ok (.if_icmp .ge 36, 3) := by decide +kernel
theorem d_M_grow_105 : decode b_M_grow 105 = .ok (.aload_n 0, 1) := by decide +kernel
theorem d_M_grow_106 : decode b_M_grow 106 = .ok (.getfield 49, 3) := by decide +kernel
theorem d_M_grow_109 : decode b_M_grow 109 = .ok (.iload 4, 2) := by decide +kernel
theorem d_M_grow_111 : decode b_M_grow 111 = .ok (.dup2, 1) := by decide +kernel
theorem d_M_grow_112 : decode b_M_grow 112 = .ok (.laload, 1) := by decide +kernel
theorem d_M_grow_113 : decode b_M_grow 113 = .ok (.aload_n 0, 1) := by decide +kernel
theorem d_M_grow_114 : decode b_M_grow 114 = .ok (.getfield 39, 3) := by decide +kernel
theorem d_M_grow_117 : decode b_M_grow 117 = .ok (.iload_n 1, 1) := by decide +kernel
theorem d_M_grow_118 : decode b_M_grow 118 = .ok (.bipush 7, 2) := by decide +kernel
theorem d_M_grow_120 : decode b_M_grow 120 = .ok (.imul, 1) := by decide +kernel
theorem d_M_grow_121 : decode b_M_grow 121 = .ok (.aload_n 0, 1) := by decide +kernel
theorem d_M_grow_122 : decode b_M_grow 122 = .ok (.getfield 46, 3) := by decide +kernel
theorem d_M_grow_125 : decode b_M_grow 125 = .ok (.iload 4, 2) := by decide +kernel
theorem d_M_grow_127 : decode b_M_grow 127 = .ok (.iaload, 1) := by decide +kernel
theorem d_M_grow_128 : decode b_M_grow 128 = .ok (.iadd, 1) := by decide +kernel
theorem d_M_grow_129 : decode b_M_grow 129 = .ok (.laload, 1) := by decide +kernel
theorem d_M_grow_130 : decode b_M_grow 130 = .ok (.lsub, 1) := by decide +kernel
theorem d_M_grow_131 : decode b_M_grow 131 = .ok (.lastore, 1) := by decide +kernel
theorem d_M_grow_132 : decode b_M_grow 132 = .ok (.iinc 4 1, 3) := by decide +kernel
theorem d_M_grow_135 : decode b_M_grow 135 = .ok (.goto (-39), 3) := by decide +kernel
theorem d_M_grow_138 : decode b_M_grow 138 = .ok (.return_, 1) := by decide +kernel
theorem d_M_growNode_0 : decode b_M_growNode 0 = .ok (.iload_n 1, 1) := by decide +kernel
theorem d_M_growNode_1 : decode b_M_growNode 1 = .ok (.bipush 7, 2) := by decide +kernel
theorem d_M_growNode_3 : decode b_M_growNode 3 = .ok (.imul, 1) := by decide +kernel
theorem d_M_growNode_4 : decode b_M_growNode 4 = .ok (.iload_n 2, 1) := by decide +kernel
theorem d_M_growNode_5 : decode b_M_growNode 5 = .ok (.iadd, 1) := by decide +kernel
theorem d_M_growNode_6 : decode b_M_growNode 6 = .ok (.istore 5, 2) := by decide +kernel
theorem d_M_growNode_8 : decode b_M_growNode 8 = .ok (.aload_n 0, 1) := by decide +kernel
theorem d_M_growNode_9 : decode b_M_growNode 9 = .ok (.iconst (-1), 1) := by decide +kernel
theorem d_M_growNode_10 : decode b_M_growNode 10 = .ok (.putfield 77, 3) := by decide +kernel
theorem d_M_growNode_13 : decode b_M_growNode 13 = .ok (.iload_n 2, 1) := by decide +kernel
theorem d_M_growNode_14 : decode b_M_growNode 14 = .ok (.ifCond .ne 7, 3) := by decide +kernel
theorem d_M_growNode_17 : decode b_M_growNode 17 = .ok (.iconst 0, 1) := by decide +kernel
theorem d_M_growNode_18 : decode b_M_growNode 18 = .ok (.goto 13, 3) := by decide +kernel
theorem d_M_growNode_21 : decode b_M_growNode 21 = .ok (.iload_n 2, 1) := by decide +kernel
theorem d_M_growNode_22 : decode b_M_growNode 22 = .ok (.iconst 3, 1) := by decide +kernel
theorem d_M_growNode_23 : decode b_M_growNode 23 = .ok (.if_icmp .ge 7, 3) := by decide +kernel
theorem d_M_growNode_26 : decode b_M_growNode 26 = .ok (.iconst 1, 1) := by decide +kernel
theorem d_M_growNode_27 : decode b_M_growNode 27 = .ok (.goto 4, 3) := by decide +kernel
theorem d_M_growNode_30 : decode b_M_growNode 30 = .ok (.iconst 2, 1) := by decide +kernel
theorem d_M_growNode_31 : decode b_M_growNode 31 = .ok (.istore 6, 2) := by decide +kernel
theorem d_M_growNode_33 : decode b_M_growNode 33 = .ok (.iload 6, 2) := by decide +kernel
theorem d_M_growNode_35 : decode b_M_growNode 35 = .ok (.iload_n 3, 1) := by decide +kernel
theorem d_M_growNode_36 : decode b_M_growNode 36 = .ok (.if_icmp .ge 10, 3) := by decide +kernel
theorem d_M_growNode_39 : decode b_M_growNode 39 = .ok (.aload_n 0, 1) := by decide +kernel
theorem d_M_growNode_40 : decode b_M_growNode 40 = .ok (.iload_n 2, 1) := by decide +kernel
theorem d_M_growNode_41 : decode b_M_growNode 41 = .ok (.iload 4, 2) := by decide +kernel
theorem d_M_growNode_43 : decode b_M_growNode 43 = .ok (.invokevirtual 95, 3) := by decide +kernel
theorem d_M_growNode_46 : decode b_M_growNode 46 = .ok (.aload_n 0, 1) := by decide +kernel
theorem d_M_growNode_47 : decode b_M_growNode 47 = .ok (.getfield 77, 3) := by decide +kernel
theorem d_M_growNode_50 : decode b_M_growNode 50 = .ok (.ifCond .lt 104, 3) := by decide +kernel
theorem d_M_growNode_53 : decode b_M_growNode 53 = .ok (.aload_n 0, 1) := by decide +kernel
theorem d_M_growNode_54 : decode b_M_growNode 54 = .ok (.getfield 30, 3) := by decide +kernel
theorem d_M_growNode_57 : decode b_M_growNode 57 = .ok (.iload 5, 2) := by decide +kernel
theorem d_M_growNode_59 : decode b_M_growNode 59 = .ok (.iconst 2, 1) := by decide +kernel
theorem d_M_growNode_60 : decode b_M_growNode 60 = .ok (.iastore, 1) := by decide +kernel
theorem d_M_growNode_61 : decode b_M_growNode 61 = .ok (.aload_n 0, 1) := by decide +kernel
theorem d_M_growNode_62 : decode b_M_growNode 62 = .ok (.getfield 33, 3) := by decide +kernel
theorem d_M_growNode_65 : decode b_M_growNode 65 = .ok (.iload 5, 2) := by decide +kernel
theorem d_M_growNode_67 : decode b_M_growNode 67 = .ok (.aload_n 0, 1) := by decide +kernel
theorem d_M_growNode_68 : decode b_M_growNode 68 = .ok (.getfield 77, 3) := by decide +kernel
theorem d_M_growNode_71 : decode b_M_growNode 71 = .ok (.iastore, 1) := by decide +kernel
theorem d_M_growNode_72 : decode b_M_growNode 72 = .ok (.aload_n 0, 1) := by decide +kernel
theorem d_M_growNode_73 : decode b_M_growNode 73 = .ok (.getfield 36, 3) := by decide +kernel
theorem d_M_growNode_76 : decode b_M_growNode 76 = .ok (.iload 5, 2) := by decide +kernel
theorem d_M_growNode_78 : decode b_M_growNode 78 = .ok (.aload_n 0, 1) := by decide +kernel
theorem d_M_growNode_79 : decode b_M_growNode 79 = .ok (.getfield 92, 3) := by decide +kernel
theorem d_M_growNode_82 : decode b_M_growNode 82 = .ok (.iastore, 1) := by decide +kernel
theorem d_M_growNode_83 : decode b_M_growNode 83 = .ok (.iconst 0, 1) := by decide +kernel
theorem d_M_growNode_84 : decode b_M_growNode 84 = .ok (.istore 7, 2) := by decide +kernel
theorem d_M_growNode_86 : decode b_M_growNode 86 = .ok (.iload 7, 2) := by decide +kernel
theorem d_M_growNode_88 : decode b_M_growNode 88 = .ok (.aload_n 0, 1) := by decide +kernel
theorem d_M_growNode_89 : decode b_M_growNode 89 = .ok (.getfield 70, 3) := by decide +kernel
theorem d_M_growNode_92 : decode b_M_growNode 92 = .ok (.if_icmp .ge 61, 3) := by decide +kernel
theorem d_M_growNode_95 : decode b_M_growNode 95 = .ok (.aload_n 0, 1) := by decide +kernel
theorem d_M_growNode_96 : decode b_M_growNode 96 = .ok (.getfield 46, 3) := by decide +kernel
theorem d_M_growNode_99 : decode b_M_growNode 99 = .ok (.iload 7, 2) := by decide +kernel
theorem d_M_growNode_101 : decode b_M_growNode 101 = .ok (.iaload, 1) := by decide +kernel
theorem d_M_growNode_102 : decode b_M_growNode 102 = .ok (.iload_n 2, 1) := by decide +kernel
theorem d_M_growNode_103 : decode b_M_growNode 103 = .ok (.if_icmp .ne 44, 3) := by decide +kernel
theorem d_M_growNode_106 : decode b_M_growNode 106 = .ok (.aload_n 0, 1) := by decide +kernel
theorem d_M_growNode_107 : decode b_M_growNode 107 = .ok (.getfield 46, 3) := by decide +kernel
theorem d_M_growNode_110 : decode b_M_growNode 110 = .ok (.iload 7, 2) := by decide +kernel
theorem d_M_growNode_112 : decode b_M_growNode 112 = .ok (.aload_n 0, 1) := by decide +kernel
theorem d_M_growNode_113 : decode b_M_growNode 113 = .ok (.getfield 43, 3) := by decide +kernel
theorem d_M_growNode_116 : decode b_M_growNode 116 = .ok (.iload 7, 2) := by decide +kernel
theorem d_M_growNode_118 : decode b_M_growNode 118 = .ok (.iconst 5, 1) := by decide +kernel
theorem d_M_growNode_119 : decode b_M_growNode 119 = .ok (.imul, 1) := by decide +kernel
theorem d_M_growNode_120 : decode b_M_growNode 120 = .ok (.aload_n 0, 1) := by decide +kernel
theorem d_M_growNode_121 : decode b_M_growNode 121 = .ok (.getfield 77, 3) := by decide +kernel
theorem d_M_growNode_124 : decode b_M_growNode 124 = .ok (.iadd, 1) := by decide +kernel
theorem d_M_growNode_125 : decode b_M_growNode 125 = .ok (.iaload, 1) := by decide +kernel
theorem d_M_growNode_126 : decode b_M_growNode 126 = .ok (.aload_n 0, 1) := by decide +kernel
theorem d_M_growNode_127 : decode b_M_growNode 127 = .ok (.getfield 92, 3) := by decide +kernel
theorem d_M_growNode_130 : decode b_M_growNode 130 = .ok (.if_icmp .le 11, 3) := by decide +kernel
theorem d_M_growNode_133 : decode b_M_growNode 133 = .ok (.iconst 2, 1) := by decide +kernel
theorem d_M_growNode_134 : decode b_M_growNode 134 = .ok (.iload_n 2, 1) := by decide +kernel
theorem d_M_growNode_135 : decode b_M_growNode 135 = .ok (.imul, 1) := by decide +kernel
theorem d_M_growNode_136 : decode b_M_growNode 136 = .ok (.iconst 2, 1) := by decide +kernel
theorem d_M_growNode_137 : decode b_M_growNode 137 = .ok (.iadd, 1) := by decide +kernel
theorem d_M_growNode_138 : decode b_M_growNode 138 = .ok (.goto 8, 3) := by decide +kernel
theorem d_M_growNode_141 : decode b_M_growNode 141 = .ok (.iconst 2, 1) := by decide +kernel
theorem d_M_growNode_142 : decode b_M_growNode 142 = .ok (.iload_n 2, 1) := by decide +kernel
theorem d_M_growNode_143 : decode b_M_growNode 143 = .ok (.imul, 1) := by decide +kernel
theorem d_M_growNode_144 : decode b_M_growNode 144 = .ok (.iconst 1, 1) := by decide +kernel
theorem d_M_growNode_145 : decode b_M_growNode 145 = .ok (.iadd, 1) := by decide +kernel
theorem d_M_growNode_146 : decode b_M_growNode 146 = .ok (.iastore, 1) := by decide +kernel
theorem d_M_growNode_147 : decode b_M_growNode 147 = .ok (.iinc 7 1, 3) := by decide +kernel
theorem d_M_growNode_150 : decode b_M_growNode 150 = .ok (.goto (-64), 3) := by decide +kernel
theorem d_M_growNode_153 : decode b_M_growNode 153 = .ok (.return_, 1) := by decide +kernel
theorem d_M_growNode_154 : decode b_M_growNode 154 = .ok (.lconst 0, 1) := by decide +kernel
theorem d_M_growNode_155 : decode b_M_growNode 155 = .ok (.lstore 7, 2) := by decide +kernel
theorem d_M_growNode_157 : decode b_M_growNode 157 = .ok (.iconst 0, 1) := by decide +kernel
theorem d_M_growNode_158 : decode b_M_growNode 158 = .ok (.istore 9, 2) := by decide +kernel
theorem d_M_growNode_160 : decode b_M_growNode 160 = .ok (.iconst 0, 1) := by decide +kernel
theorem d_M_growNode_161 : decode b_M_growNode 161 = .ok (.istore 10, 2) := by decide +kernel
theorem d_M_growNode_163 : decode b_M_growNode 163 = .ok (.iload 10, 2) := by decide +kernel
theorem d_M_growNode_165 : decode b_M_growNode 165 = .ok (.aload_n 0, 1) := by decide +kernel
theorem d_M_growNode_166 : decode b_M_growNode 166 = .ok (.getfield 70, 3) := by decide +kernel
theorem d_M_growNode_169 : decode b_M_growNode 169 = .ok (.if_icmp .ge 38, 3) := by decide +kernel
theorem d_M_growNode_172 : decode b_M_growNode 172 = .ok (.aload_n 0, 1) := by decide +kernel
theorem d_M_growNode_173 : decode b_M_growNode 173 = .ok (.getfield 46, 3) := by decide +kernel
theorem d_M_growNode_176 : decode b_M_growNode 176 = .ok (.iload 10, 2) := by decide +kernel
theorem d_M_growNode_178 : decode b_M_growNode 178 = .ok (.iaload, 1) := by decide +kernel
theorem d_M_growNode_179 : decode b_M_growNode 179 = .ok (.iload_n 2, 1) := by decide +kernel
theorem d_M_growNode_180 : decode b_M_growNode 180 = .ok (.if_icmp .eq 6, 3) := by decide +kernel
theorem d_M_growNode_183 : decode b_M_growNode 183 = .ok (.goto 18, 3) := by decide +kernel
theorem d_M_growNode_186 : decode b_M_growNode 186 = .ok (.lload 7, 2) := by decide +kernel
theorem d_M_growNode_188 : decode b_M_growNode 188 = .ok (.aload_n 0, 1) := by decide +kernel
theorem d_M_growNode_189 : decode b_M_growNode 189 = .ok (.getfield 49, 3) := by decide +kernel
theorem d_M_growNode_192 : decode b_M_growNode 192 = .ok (.iload 10, 2) := by decide +kernel
theorem d_M_growNode_194 : decode b_M_growNode 194 = .ok (.laload, 1) := by decide +kernel
theorem d_M_growNode_195 : decode b_M_growNode 195 = .ok (.ladd, 1) := by decide +kernel
theorem d_M_growNode_196 : decode b_M_growNode 196 = .ok (.lstore 7, 2) := by decide +kernel
theorem d_M_growNode_198 : decode b_M_growNode 198 = .ok (.iinc 9 1, 3) := by decide +kernel
theorem d_M_growNode_201 : decode b_M_growNode 201 = .ok (.iinc 10 1, 3) := by decide +kernel
theorem d_M_growNode_204 : decode b_M_growNode 204 = .ok (.goto (-41), 3) := by decide +kernel
theorem d_M_growNode_207 : decode b_M_growNode 207 = .ok (.aload_n 0, 1) := by decide +kernel
theorem d_M_growNode_208 : decode b_M_growNode 208 = .ok (.getfield 30, 3) := by decide +kernel
theorem d_M_growNode_211 : decode b_M_growNode 211 = .ok (.iload 5, 2) := by decide +kernel
theorem d_M_growNode_213 : decode b_M_growNode 213 = .ok (.iconst 1, 1) := by decide +kernel
theorem d_M_growNode_214 : decode b_M_growNode 214 = .ok (.iastore, 1) := by decide +kernel
theorem d_M_growNode_215 : decode b_M_growNode 215 = .ok (.aload_n 0, 1) := by decide +kernel
theorem d_M_growNode_216 : decode b_M_growNode 216 = .ok (.getfield 39, 3) := by decide +kernel
theorem d_M_growNode_219 : decode b_M_growNode 219 = .ok (.iload 5, 2) := by decide +kernel
theorem d_M_growNode_221 : decode b_M_growNode 221 = .ok (.lload 7, 2) := by decide +kernel
theorem d_M_growNode_223 : decode b_M_growNode 223 = .ok (.iload 9, 2) := by decide +kernel
theorem d_M_growNode_225 : decode b_M_growNode 225 = .ok (.invokestatic 73, 3) := by decide +kernel
theorem d_M_growNode_228 : decode b_M_growNode 228 = .ok (.i2l, 1) := by decide +kernel
theorem d_M_growNode_229 : decode b_M_growNode 229 = .ok (.ldiv, 1) := by decide +kernel
theorem d_M_growNode_230 : decode b_M_growNode 230 = .ok (.lastore, 1) := by decide +kernel
theorem d_M_growNode_231 : decode b_M_growNode 231 = .ok (.return_, 1) := by decide +kernel
theorem d_M_findSplit_0 : decode b_M_findSplit 0 = .ok (.aload_n 0, 1) := by decide +kernel
theorem d_M_findSplit_1 : decode b_M_findSplit 1 = .ok (.iconst (-1), 1) := by decide +kernel
theorem d_M_findSplit_2 : decode b_M_findSplit 2 = .ok (.putfield 77, 3) := by decide +kernel
theorem d_M_findSplit_5 : decode b_M_findSplit 5 = .ok (.aload_n 0, 1) := by decide +kernel
theorem d_M_findSplit_6 : decode b_M_findSplit 6 = .ok (.aload_n 0, 1) := by decide +kernel
theorem d_M_findSplit_7 : decode b_M_findSplit 7 = .ok (.iload_n 1, 1) := by decide +kernel
theorem d_M_findSplit_8 : decode b_M_findSplit 8 = .ok (.iconst 0, 1) := by decide +kernel
theorem d_M_findSplit_9 : decode b_M_findSplit 9 = .ok (.iconst 0, 1) := by decide +kernel
theorem d_M_findSplit_10 : decode b_M_findSplit 10 = .ok (.iconst 2, 1) := by decide +kernel
theorem d_M_findSplit_11 : decode b_M_findSplit 11 = .ok (.invokevirtual 80, 3) := by decide +kernel
theorem d_M_findSplit_14 : decode b_M_findSplit 14 = .ok (.putfield 84, 3) := by decide +kernel
theorem d_M_findSplit_17 : decode b_M_findSplit 17 = .ok (.iconst 0, 1) := by decide +kernel
theorem d_M_findSplit_18 : decode b_M_findSplit 18 = .ok (.istore_n 3, 1) := by decide +kernel
theorem d_M_findSplit_19 : decode b_M_findSplit 19 = .ok (.iload_n 3, 1) := by decide +kernel
theorem d_M_findSplit_20 : decode b_M_findSplit 20 = .ok (.iconst 5, 1) := by decide +kernel
theorem d_M_findSplit_21 : decode b_M_findSplit 21 = .ok (.if_icmp .ge 162, 3) := by decide +kernel
theorem d_M_findSplit_24 : decode b_M_findSplit 24 = .ok (.iconst 0, 1) := by decide +kernel
theorem d_M_findSplit_25 : decode b_M_findSplit 25 = .ok (.istore 4, 2) := by decide +kernel
theorem d_M_findSplit_27 : decode b_M_findSplit 27 = .ok (.iload 4, 2) := by decide +kernel
theorem d_M_findSplit_29 : decode b_M_findSplit 29 = .ok (.sipush 200, 3) := by decide +kernel
theorem d_M_findSplit_32 : decode b_M_findSplit 32 = .ok (.if_icmp .ge 145, 3) := by decide +kernel
theorem d_M_findSplit_35 : decode b_M_findSplit 35 = .ok (.iconst 0, 1) := by decide +kernel
theorem d_M_findSplit_36 : decode b_M_findSplit 36 = .ok (.istore 5, 2) := by decide +kernel
theorem d_M_findSplit_38 : decode b_M_findSplit 38 = .ok (.iconst 0, 1) := by decide +kernel
theorem d_M_findSplit_39 : decode b_M_findSplit 39 = .ok (.istore 6, 2) := by decide +kernel
theorem d_M_findSplit_41 : decode b_M_findSplit 41 = .ok (.iload 6, 2) := by decide +kernel
theorem d_M_findSplit_43 : decode b_M_findSplit 43 = .ok (.aload_n 0, 1) := by decide +kernel
theorem d_M_findSplit_44 : decode b_M_findSplit 44 = .ok (.getfield 70, 3) := by decide +kernel
theorem d_M_findSplit_47 : decode b_M_findSplit 47 = .ok (.if_icmp .ge 39, 3) := by decide +kernel
theorem d_M_findSplit_50 : decode b_M_findSplit 50 = .ok (.aload_n 0, 1) := by decide +kernel
theorem d_M_findSplit_51 : decode b_M_findSplit 51 = .ok (.getfield 46, 3) := by decide +kernel
theorem d_M_findSplit_54 : decode b_M_findSplit 54 = .ok (.iload 6, 2) := by decide +kernel
theorem d_M_findSplit_56 : decode b_M_findSplit 56 = .ok (.iaload, 1) := by decide +kernel
theorem d_M_findSplit_57 : decode b_M_findSplit 57 = .ok (.iload_n 1, 1) := by decide +kernel
theorem d_M_findSplit_58 : decode b_M_findSplit 58 = .ok (.if_icmp .ne 22, 3) := by decide +kernel
theorem d_M_findSplit_61 : decode b_M_findSplit 61 = .ok (.aload_n 0, 1) := by decide +kernel
theorem d_M_findSplit_62 : decode b_M_findSplit 62 = .ok (.getfield 43, 3) := by decide +kernel
theorem d_M_findSplit_65 : decode b_M_findSplit 65 = .ok (.iload 6, 2) := by decide +kernel
theorem d_M_findSplit_67 : decode b_M_findSplit 67 = .ok (.iconst 5, 1) := by decide +kernel
theorem d_M_findSplit_68 : decode b_M_findSplit 68 = .ok (.imul, 1) := by decide +kernel
theorem d_M_findSplit_69 : decode b_M_findSplit 69 = .ok (.iload_n 3, 1) := by decide +kernel
theorem d_M_findSplit_70 : decode b_M_findSplit 70 = .ok (.iadd, 1) := by decide +kernel
theorem d_M_findSplit_71 : decode b_M_findSplit 71 = .ok (.iaload, 1) := by decide +kernel
theorem d_M_findSplit_72 : decode b_M_findSplit 72 = .ok (.iload 4, 2) := by decide +kernel
theorem d_M_findSplit_74 : decode b_M_findSplit 74 = .ok (.if_icmp .ne 6, 3) := by decide +kernel
theorem d_M_findSplit_77 : decode b_M_findSplit 77 = .ok (.iconst 1, 1) := by decide +kernel
theorem d_M_findSplit_78 : decode b_M_findSplit 78 = .ok (.istore 5, 2) := by decide +kernel
theorem d_M_findSplit_80 : decode b_M_findSplit 80 = .ok (.iinc 6 1, 3) := by decide +kernel
theorem d_M_findSplit_83 : decode b_M_findSplit 83 = .ok (.goto (-42), 3) := by decide +kernel
theorem d_M_findSplit_86 : decode b_M_findSplit 86 = .ok (.iload 5, 2) := by decide +kernel
theorem d_M_findSplit_88 : decode b_M_findSplit 88 = .ok (.ifCond .eq 83, 3) := by decide +kernel
theorem d_M_findSplit_91 : decode b_M_findSplit 91 = .ok (.aload_n 0, 1) := by decide +kernel
theorem d_M_findSplit_92 : decode b_M_findSplit 92 = .ok (.iload_n 1, 1) := by decide +kernel
theorem d_M_findSplit_93 : decode b_M_findSplit 93 = .ok (.iload_n 3, 1) := by decide +kernel
theorem d_M_findSplit_94 : decode b_M_findSplit 94 = .ok (.iload 4, 2) := by decide +kernel
theorem d_M_findSplit_96 : decode b_M_findSplit 96 = .ok (.iconst 0, 1) := by decide +kernel
theorem d_M_findSplit_97 : decode b_M_findSplit 97 = .ok (.invokevirtual 88, 3) := by decide +kernel
theorem d_M_findSplit_100 : decode b_M_findSplit 100 = .ok (.iload_n 2, 1) := by decide +kernel
theorem d_M_findSplit_101 : decode b_M_findSplit 101 = .ok (.if_icmp .lt 70, 3) := by decide +kernel
theorem d_M_findSplit_104 : decode b_M_findSplit 104 = .ok (.aload_n 0, 1) := by decide +kernel
theorem d_M_findSplit_105 : decode b_M_findSplit 105 = .ok (.iload_n 1, 1) := by decide +kernel
theorem d_M_findSplit_106 : decode b_M_findSplit 106 = .ok (.iload_n 3, 1) := by decide +kernel
theorem d_M_findSplit_107 : decode b_M_findSplit 107 = .ok (.iload 4, 2) := by decide +kernel
theorem d_M_findSplit_109 : decode b_M_findSplit 109 = .ok (.iconst 1, 1) := by decide +kernel
theorem d_M_findSplit_110 : decode b_M_findSplit 110 = .ok (.invokevirtual 88, 3) := by decide +kernel
theorem d_M_findSplit_113 : decode b_M_findSplit 113 = .ok (.iload_n 2, 1) := by decide +kernel
theorem d_M_findSplit_114 : decode b_M_findSplit 114 = .ok (.if_icmp .ge 6, 3) := by decide +kernel
theorem d_M_findSplit_117 : decode b_M_findSplit 117 = .ok (.goto 54, 3) := by decide +kernel
theorem d_M_findSplit_120 : decode b_M_findSplit 120 = .ok (.aload_n 0, 1) := by decide +kernel
theorem d_M_findSplit_121 : decode b_M_findSplit 121 = .ok (.iload_n 1, 1) := by decide +kernel
theorem d_M_findSplit_122 : decode b_M_findSplit 122 = .ok (.iload_n 3, 1) := by decide +kernel
theorem d_M_findSplit_123 : decode b_M_findSplit 123 = .ok (.iload 4, 2) := by decide +kernel
theorem d_M_findSplit_125 : decode b_M_findSplit 125 = .ok (.iconst 0, 1) := by decide +kernel
theorem d_M_findSplit_126 : decode b_M_findSplit 126 = .ok (.invokevirtual 80, 3) := by decide +kernel
theorem d_M_findSplit_129 : decode b_M_findSplit 129 = .ok (.aload_n 0, 1) := by decide +kernel
theorem d_M_findSplit_130 : decode b_M_findSplit 130 = .ok (.iload_n 1, 1) := by decide +kernel
theorem d_M_findSplit_131 : decode b_M_findSplit 131 = .ok (.iload_n 3, 1) := by decide +kernel
theorem d_M_findSplit_132 : decode b_M_findSplit 132 = .ok (.iload 4, 2) := by decide +kernel
theorem d_M_findSplit_134 : decode b_M_findSplit 134 = .ok (.iconst 1, 1) := by decide +kernel
theorem d_M_findSplit_135 : decode b_M_findSplit 135 = .ok (.invokevirtual 80, 3) := by decide +kernel
theorem d_M_findSplit_138 : decode b_M_findSplit 138 = .ok (.ladd, 1) := by decide +kernel
theorem d_M_findSplit_139 : decode b_M_findSplit 139 = .ok (.lstore 6, 2) := by decide +kernel
theorem d_M_findSplit_141 : decode b_M_findSplit 141 = .ok (.lload 6, 2) := by decide +kernel
theorem d_M_findSplit_143 : decode b_M_findSplit 143 = .ok (.aload_n 0, 1) := by decide +kernel
theorem d_M_findSplit_144 : decode b_M_findSplit 144 = .ok (.getfield 84, 3) := by decide +kernel
theorem d_M_findSplit_147 : decode b_M_findSplit 147 = .ok (.lcmp, 1) := by decide +kernel
theorem d_M_findSplit_148 : decode b_M_findSplit 148 = .ok (.ifCond .gt 6, 3) := by decide +kernel
theorem d_M_findSplit_151 : decode b_M_findSplit 151 = .ok (.goto 20, 3) := by decide +kernel
theorem d_M_findSplit_154 : decode b_M_findSplit 154 = .ok (.aload_n 0, 1) := by decide +kernel
theorem d_M_findSplit_155 : decode b_M_findSplit 155 = .ok (.lload 6, 2) := by decide +kernel
theorem d_M_findSplit_157 : decode b_M_findSplit 157 = .ok (.putfield 84, 3) := by decide +kernel
theorem d_M_findSplit_160 : decode b_M_findSplit 160 = .ok (.aload_n 0, 1) := by decide +kernel
theorem d_M_findSplit_161 : decode b_M_findSplit 161 = .ok (.iload_n 3, 1) := by decide +kernel
theorem d_M_findSplit_162 : decode b_M_findSplit 162 = .ok (.putfield 77, 3) := by decide +kernel
theorem d_M_findSplit_165 : decode b_M_findSplit 165 = .ok (.aload_n 0, 1) := by decide +kernel
theorem d_M_findSplit_166 : decode b_M_findSplit 166 = .ok (.iload 4, 2) := by decide +kernel
theorem d_M_findSplit_168 : decode b_M_findSplit 168 = .ok (.putfield 92, 3) := by decide +kernel
theorem d_M_findSplit_171 : decode b_M_findSplit 171 = .ok (.iinc 4 1, 3) := by decide +kernel
theorem d_M_findSplit_174 : decode b_M_findSplit 174 = .ok (.goto (-147), 3) := by decide +kernel
theorem d_M_findSplit_177 : decode b_M_findSplit 177 = .ok (.iinc 3 1, 3) := by decide +kernel
theorem d_M_findSplit_180 : decode b_M_findSplit 180 = .ok (.goto (-161), 3) := by decide +kernel
theorem d_M_findSplit_183 : decode b_M_findSplit 183 = .ok (.return_, 1) := by decide +kernel
theorem d_M_part_0 : decode b_M_part 0 = .ok (.lconst 0, 1) := by decide +kernel
theorem d_M_part_1 : decode b_M_part 1 = .ok (.lstore 5, 2) := by decide +kernel
theorem d_M_part_3 : decode b_M_part 3 = .ok (.iconst 0, 1) := by decide +kernel
theorem d_M_part_4 : decode b_M_part 4 = .ok (.istore 7, 2) := by decide +kernel
theorem d_M_part_6 : decode b_M_part 6 = .ok (.iconst 0, 1) := by decide +kernel
theorem d_M_part_7 : decode b_M_part 7 = .ok (.istore 8, 2) := by decide +kernel
theorem d_M_part_9 : decode b_M_part 9 = .ok (.iload 8, 2) := by decide +kernel
theorem d_M_part_11 : decode b_M_part 11 = .ok (.aload_n 0, 1) := by decide +kernel
theorem d_M_part_12 : decode b_M_part 12 = .ok (.getfield 70, 3) := by decide +kernel
theorem d_M_part_15 : decode b_M_part 15 = .ok (.if_icmp .ge 85, 3) := by decide +kernel
theorem d_M_part_18 : decode b_M_part 18 = .ok (.aload_n 0, 1) := by decide +kernel
theorem d_M_part_19 : decode b_M_part 19 = .ok (.getfield 46, 3) := by decide +kernel
theorem d_M_part_22 : decode b_M_part 22 = .ok (.iload 8, 2) := by decide +kernel
theorem d_M_part_24 : decode b_M_part 24 = .ok (.iaload, 1) := by decide +kernel
theorem d_M_part_25 : decode b_M_part 25 = .ok (.iload_n 1, 1) := by decide +kernel
theorem d_M_part_26 : decode b_M_part 26 = .ok (.if_icmp .eq 6, 3) := by decide +kernel
theorem d_M_part_29 : decode b_M_part 29 = .ok (.goto 65, 3) := by decide +kernel
theorem d_M_part_32 : decode b_M_part 32 = .ok (.aload_n 0, 1) := by decide +kernel
theorem d_M_part_33 : decode b_M_part 33 = .ok (.getfield 43, 3) := by decide +kernel
theorem d_M_part_36 : decode b_M_part 36 = .ok (.iload 8, 2) := by decide +kernel
theorem d_M_part_38 : decode b_M_part 38 = .ok (.iconst 5, 1) := by decide +kernel
theorem d_M_part_39 : decode b_M_part 39 = .ok (.imul, 1) := by decide +kernel
theorem d_M_part_40 : decode b_M_part 40 = .ok (.iload_n 2, 1) := by decide +kernel
theorem d_M_part_41 : decode b_M_part 41 = .ok (.iadd, 1) := by decide +kernel
theorem d_M_part_42 : decode b_M_part 42 = .ok (.iaload, 1) := by decide +kernel
theorem d_M_part_43 : decode b_M_part 43 = .ok (.iload_n 3, 1) := by decide +kernel
theorem d_M_part_44 : decode b_M_part 44 = .ok (.if_icmp .le 7, 3) := by decide +kernel
theorem d_M_part_47 : decode b_M_part 47 = .ok (.iconst 1, 1) := by decide +kernel
theorem d_M_part_48 : decode b_M_part 48 = .ok (.goto 4, 3) := by decide +kernel
theorem d_M_part_51 : decode b_M_part 51 = .ok (.iconst 0, 1) := by decide +kernel
theorem d_M_part_52 : decode b_M_part 52 = .ok (.istore 9, 2) := by decide +kernel
theorem d_M_part_54 : decode b_M_part 54 = .ok (.iload 4, 2) := by decide +kernel
theorem d_M_part_56 : decode b_M_part 56 = .ok (.iconst 2, 1) := by decide +kernel
theorem d_M_part_57 : decode b_M_part 57 = .ok (.if_icmp .ge 22, 3) := by decide +kernel
theorem d_M_part_60 : decode b_M_part 60 = .ok (.iload 9, 2) := by decide +kernel
theorem d_M_part_62 : decode b_M_part 62 = .ok (.iload 4, 2) := by decide +kernel
theorem d_M_part_64 : decode b_M_part 64 = .ok (.iconst 1, 1) := by decide +kernel
theorem d_M_part_65 : decode b_M_part 65 = .ok (.if_icmp .ne 7, 3) := by decide +kernel
theorem d_M_part_68 : decode b_M_part 68 = .ok (.iconst 1, 1) := by decide +kernel
theorem d_M_part_69 : decode b_M_part 69 = .ok (.goto 4, 3) := by decide +kernel
theorem d_M_part_72 : decode b_M_part 72 = .ok (.iconst 0, 1) := by decide +kernel
theorem d_M_part_73 : decode b_M_part 73 = .ok (.if_icmp .eq 6, 3) := by decide +kernel
theorem d_M_part_76 : decode b_M_part 76 = .ok (.goto 18, 3) := by decide +kernel
theorem d_M_part_79 : decode b_M_part 79 = .ok (.lload 5, 2) := by decide +kernel
theorem d_M_part_81 : decode b_M_part 81 = .ok (.aload_n 0, 1) := by decide +kernel
theorem d_M_part_82 : decode b_M_part 82 = .ok (.getfield 49, 3) := by decide +kernel
theorem d_M_part_85 : decode b_M_part 85 = .ok (.iload 8, 2) := by decide +kernel
theorem d_M_part_87 : decode b_M_part 87 = .ok (.laload, 1) := by decide +kernel
theorem d_M_part_88 : decode b_M_part 88 = .ok (.ladd, 1) := by decide +kernel
theorem d_M_part_89 : decode b_M_part 89 = .ok (.lstore 5, 2) := by decide +kernel
theorem d_M_part_91 : decode b_M_part 91 = .ok (.iinc 7 1, 3) := by decide +kernel
theorem d_M_part_94 : decode b_M_part 94 = .ok (.iinc 8 1, 3) := by decide +kernel
theorem d_M_part_97 : decode b_M_part 97 = .ok (.goto (-88), 3) := by decide +kernel
theorem d_M_part_100 : decode b_M_part 100 = .ok (.iload 7, 2) := by decide +kernel
theorem d_M_part_102 : decode b_M_part 102 = .ok (.ifCond .ne 7, 3) := by decide +kernel
theorem d_M_part_105 : decode b_M_part 105 = .ok (.lconst 0, 1) := by decide +kernel
theorem d_M_part_106 : decode b_M_part 106 = .ok (.goto 15, 3) := by decide +kernel
theorem d_M_part_109 : decode b_M_part 109 = .ok (.lload 5, 2) := by decide +kernel
theorem d_M_part_111 : decode b_M_part 111 = .ok (.lload 5, 2) := by decide +kernel
theorem d_M_part_113 : decode b_M_part 113 = .ok (.lmul, 1) := by decide +kernel
theorem d_M_part_114 : decode b_M_part 114 = .ok (.iload 7, 2) := by decide +kernel
theorem d_M_part_116 : decode b_M_part 116 = .ok (.invokestatic 73, 3) := by decide +kernel
theorem d_M_part_119 : decode b_M_part 119 = .ok (.i2l, 1) := by decide +kernel
theorem d_M_part_120 : decode b_M_part 120 = .ok (.ldiv, 1) := by decide +kernel
theorem d_M_part_121 : decode b_M_part 121 = .ok (.lreturn, 1) := by decide +kernel
theorem d_M_share_0 : decode b_M_share 0 = .ok (.iconst 1, 1) := by decide +kernel
theorem d_M_share_1 : decode b_M_share 1 = .ok (.istore_n 1, 1) := by decide +kernel
theorem d_M_share_2 : decode b_M_share 2 = .ok (.iload_n 1, 1) := by decide +kernel
theorem d_M_share_3 : decode b_M_share 3 = .ok (.iload_n 0, 1) := by decide +kernel
theorem d_M_share_4 : decode b_M_share 4 = .ok (.if_icmp .ge 10, 3) := by decide +kernel
theorem d_M_share_7 : decode b_M_share 7 = .ok (.iload_n 1, 1) := by decide +kernel
theorem d_M_share_8 : decode b_M_share 8 = .ok (.iconst 2, 1) := by decide +kernel
theorem d_M_share_9 : decode b_M_share 9 = .ok (.imul, 1) := by decide +kernel
theorem d_M_share_10 : decode b_M_share 10 = .ok (.istore_n 1, 1) := by decide +kernel
theorem d_M_share_11 : decode b_M_share 11 = .ok (.goto (-9), 3) := by decide +kernel
theorem d_M_share_14 : decode b_M_share 14 = .ok (.iload_n 1, 1) := by decide +kernel
theorem d_M_share_15 : decode b_M_share 15 = .ok (.ireturn, 1) := by decide +kernel
theorem d_M_size_0 : decode b_M_size 0 = .ok (.iconst 0, 1) := by decide +kernel
theorem d_M_size_1 : decode b_M_size 1 = .ok (.istore 5, 2) := by decide +kernel
theorem d_M_size_3 : decode b_M_size 3 = .ok (.iconst 0, 1) := by decide +kernel
theorem d_M_size_4 : decode b_M_size 4 = .ok (.istore 6, 2) := by decide +kernel
theorem d_M_size_6 : decode b_M_size 6 = .ok (.iload 6, 2) := by decide +kernel
theorem d_M_size_8 : decode b_M_size 8 = .ok (.aload_n 0, 1) := by decide +kernel
theorem d_M_size_9 : decode b_M_size 9 = .ok (.getfield 70, 3) := by decide +kernel
theorem d_M_size_12 : decode b_M_size 12 = .ok (.if_icmp .ge 48, 3) := by decide +kernel
theorem d_M_size_15 : decode b_M_size 15 = .ok (.aload_n 0, 1) := by decide +kernel
theorem d_M_size_16 : decode b_M_size 16 = .ok (.getfield 46, 3) := by decide +kernel
theorem d_M_size_19 : decode b_M_size 19 = .ok (.iload 6, 2) := by decide +kernel
theorem d_M_size_21 : decode b_M_size 21 = .ok (.iaload, 1) := by decide +kernel
theorem d_M_size_22 : decode b_M_size 22 = .ok (.iload_n 1, 1) := by decide +kernel
theorem d_M_size_23 : decode b_M_size 23 = .ok (.if_icmp .ne 31, 3) := by decide +kernel
theorem d_M_size_26 : decode b_M_size 26 = .ok (.aload_n 0, 1) := by decide +kernel
theorem d_M_size_27 : decode b_M_size 27 = .ok (.getfield 43, 3) := by decide +kernel
theorem d_M_size_30 : decode b_M_size 30 = .ok (.iload 6, 2) := by decide +kernel
theorem d_M_size_32 : decode b_M_size 32 = .ok (.iconst 5, 1) := by decide +kernel
theorem d_M_size_33 : decode b_M_size 33 = .ok (.imul, 1) := by decide +kernel
theorem d_M_size_34 : decode b_M_size 34 = .ok (.iload_n 2, 1) := by decide +kernel
theorem d_M_size_35 : decode b_M_size 35 = .ok (.iadd, 1) := by decide +kernel
theorem d_M_size_36 : decode b_M_size 36 = .ok (.iaload, 1) := by decide +kernel
theorem d_M_size_37 : decode b_M_size 37 = .ok (.iload_n 3, 1) := by decide +kernel
theorem d_M_size_38 : decode b_M_size 38 = .ok (.if_icmp .le 7, 3) := by decide +kernel
theorem d_M_size_41 : decode b_M_size 41 = .ok (.iconst 1, 1) := by decide +kernel
theorem d_M_size_42 : decode b_M_size 42 = .ok (.goto 4, 3) := by decide +kernel
theorem d_M_size_45 : decode b_M_size 45 = .ok (.iconst 0, 1) := by decide +kernel
theorem d_M_size_46 : decode b_M_size 46 = .ok (.iload 4, 2) := by decide +kernel
theorem d_M_size_48 : decode b_M_size 48 = .ok (.if_icmp .ne 6, 3) := by decide +kernel
theorem d_M_size_51 : decode b_M_size 51 = .ok (.iinc 5 1, 3) := by decide +kernel
theorem d_M_size_54 : decode b_M_size 54 = .ok (.iinc 6 1, 3) := by decide +kernel
theorem d_M_size_57 : decode b_M_size 57 = .ok (.goto (-51), 3) := by decide +kernel
theorem d_M_size_60 : decode b_M_size 60 = .ok (.iload 5, 2) := by decide +kernel
theorem d_M_size_62 : decode b_M_size 62 = .ok (.ireturn, 1) := by decide +kernel
theorem d_M_nodes_0 : decode b_M_nodes 0 = .ok (.iconst 0, 1) := by decide +kernel
theorem d_M_nodes_1 : decode b_M_nodes 1 = .ok (.istore_n 2, 1) := by decide +kernel
theorem d_M_nodes_2 : decode b_M_nodes 2 = .ok (.iconst 0, 1) := by decide +kernel
theorem d_M_nodes_3 : decode b_M_nodes 3 = .ok (.istore_n 3, 1) := by decide +kernel
theorem d_M_nodes_4 : decode b_M_nodes 4 = .ok (.iload_n 3, 1) := by decide +kernel
theorem d_M_nodes_5 : decode b_M_nodes 5 = .ok (.aload_n 0, 1) := by decide +kernel
theorem d_M_nodes_6 : decode b_M_nodes 6 = .ok (.getfield 103, 3) := by decide +kernel
theorem d_M_nodes_9 : decode b_M_nodes 9 = .ok (.bipush 7, 2) := by decide +kernel
theorem d_M_nodes_11 : decode b_M_nodes 11 = .ok (.imul, 1) := by decide +kernel
theorem d_M_nodes_12 : decode b_M_nodes 12 = .ok (.if_icmp .ge 22, 3) := by decide +kernel
theorem d_M_nodes_15 : decode b_M_nodes 15 = .ok (.aload_n 0, 1) := by decide +kernel
theorem d_M_nodes_16 : decode b_M_nodes 16 = .ok (.getfield 30, 3) := by decide +kernel
theorem d_M_nodes_19 : decode b_M_nodes 19 = .ok (.iload_n 3, 1) := by decide +kernel
theorem d_M_nodes_20 : decode b_M_nodes 20 = .ok (.iaload, 1) := by decide +kernel
theorem d_M_nodes_21 : decode b_M_nodes 21 = .ok (.iload_n 1, 1) := by decide +kernel
theorem d_M_nodes_22 : decode b_M_nodes 22 = .ok (.if_icmp .ne 6, 3) := by decide +kernel
theorem d_M_nodes_25 : decode b_M_nodes 25 = .ok (.iinc 2 1, 3) := by decide +kernel
theorem d_M_nodes_28 : decode b_M_nodes 28 = .ok (.iinc 3 1, 3) := by decide +kernel
theorem d_M_nodes_31 : decode b_M_nodes 31 = .ok (.goto (-27), 3) := by decide +kernel
theorem d_M_nodes_34 : decode b_M_nodes 34 = .ok (.iload_n 2, 1) := by decide +kernel
theorem d_M_nodes_35 : decode b_M_nodes 35 = .ok (.ireturn, 1) := by decide +kernel
theorem d_M_feature_0 : decode b_M_feature 0 = .ok (.iload_n 1, 1) := by decide +kernel
theorem d_M_feature_1 : decode b_M_feature 1 = .ok (.bipush 8, 2) := by decide +kernel
theorem d_M_feature_3 : decode b_M_feature 3 = .ok (.invokestatic 58, 3) := by decide +kernel
theorem d_M_feature_6 : decode b_M_feature 6 = .ok (.ifCond .eq 19, 3) := by decide +kernel
theorem d_M_feature_9 : decode b_M_feature 9 = .ok (.aload_n 0, 1) := by decide +kernel
theorem d_M_feature_10 : decode b_M_feature 10 = .ok (.iload_n 2, 1) := by decide +kernel
theorem d_M_feature_11 : decode b_M_feature 11 = .ok (.invokevirtual 62, 3) := by decide +kernel
theorem d_M_feature_14 : decode b_M_feature 14 = .ok (.ifCond .eq 11, 3) := by decide +kernel
theorem d_M_feature_17 : decode b_M_feature 17 = .ok (.iload_n 3, 1) := by decide +kernel
theorem d_M_feature_18 : decode b_M_feature 18 = .ok (.iconst 5, 1) := by decide +kernel
theorem d_M_feature_19 : decode b_M_feature 19 = .ok (.invokestatic 58, 3) := by decide +kernel
theorem d_M_feature_22 : decode b_M_feature 22 = .ok (.ifCond .ne 7, 3) := by decide +kernel
theorem d_M_feature_25 : decode b_M_feature 25 = .ok (.iconst (-1), 1) := by decide +kernel
theorem d_M_feature_26 : decode b_M_feature 26 = .ok (.goto 10, 3) := by decide +kernel
theorem d_M_feature_29 : decode b_M_feature 29 = .ok (.aload_n 0, 1) := by decide +kernel
theorem d_M_feature_30 : decode b_M_feature 30 = .ok (.iload_n 1, 1) := by decide +kernel
theorem d_M_feature_31 : decode b_M_feature 31 = .ok (.iload_n 2, 1) := by decide +kernel
theorem d_M_feature_32 : decode b_M_feature 32 = .ok (.iload_n 3, 1) := by decide +kernel
theorem d_M_feature_33 : decode b_M_feature 33 = .ok (.invokevirtual 106, 3) := by decide +kernel
theorem d_M_feature_36 : decode b_M_feature 36 = .ok (.ireturn, 1) := by decide +kernel
theorem d_M_ranked_0 : decode b_M_ranked 0 = .ok (.iload_n 1, 1) := by decide +kernel
theorem d_M_ranked_1 : decode b_M_ranked 1 = .ok (.bipush 8, 2) := by decide +kernel
theorem d_M_ranked_3 : decode b_M_ranked 3 = .ok (.invokestatic 58, 3) := by decide +kernel
theorem d_M_ranked_6 : decode b_M_ranked 6 = .ok (.ifCond .ne 5, 3) := by decide +kernel
theorem d_M_ranked_9 : decode b_M_ranked 9 = .ok (.iconst (-1), 1) := by decide +kernel
theorem d_M_ranked_10 : decode b_M_ranked 10 = .ok (.ireturn, 1) := by decide +kernel
theorem d_M_ranked_11 : decode b_M_ranked 11 = .ok (.aload_n 0, 1) := by decide +kernel
theorem d_M_ranked_12 : decode b_M_ranked 12 = .ok (.iload_n 1, 1) := by decide +kernel
theorem d_M_ranked_13 : decode b_M_ranked 13 = .ok (.invokevirtual 133, 3) := by decide +kernel
theorem d_M_ranked_16 : decode b_M_ranked 16 = .ok (.iload_n 2, 1) := by decide +kernel
theorem d_M_ranked_17 : decode b_M_ranked 17 = .ok (.aload_n 0, 1) := by decide +kernel
theorem d_M_ranked_18 : decode b_M_ranked 18 = .ok (.getfield 119, 3) := by decide +kernel
theorem d_M_ranked_21 : decode b_M_ranked 21 = .ok (.invokestatic 58, 3) := by decide +kernel
theorem d_M_ranked_24 : decode b_M_ranked 24 = .ok (.ifCond .ne 5, 3) := by decide +kernel
theorem d_M_ranked_27 : decode b_M_ranked 27 = .ok (.iconst (-1), 1) := by decide +kernel
theorem d_M_ranked_28 : decode b_M_ranked 28 = .ok (.ireturn, 1) := by decide +kernel
theorem d_M_ranked_29 : decode b_M_ranked 29 = .ok (.iload_n 3, 1) := by decide +kernel
theorem d_M_ranked_30 : decode b_M_ranked 30 = .ok (.ifCond .eq 12, 3) := by decide +kernel
theorem d_M_ranked_33 : decode b_M_ranked 33 = .ok (.aload_n 0, 1) := by decide +kernel
theorem d_M_ranked_34 : decode b_M_ranked 34 = .ok (.getfield 55, 3) := by decide +kernel
theorem d_M_ranked_37 : decode b_M_ranked 37 = .ok (.iload_n 2, 1) := by decide +kernel
theorem d_M_ranked_38 : decode b_M_ranked 38 = .ok (.iaload, 1) := by decide +kernel
theorem d_M_ranked_39 : decode b_M_ranked 39 = .ok (.goto 9, 3) := by decide +kernel
theorem d_M_ranked_42 : decode b_M_ranked 42 = .ok (.aload_n 0, 1) := by decide +kernel
theorem d_M_ranked_43 : decode b_M_ranked 43 = .ok (.getfield 52, 3) := by decide +kernel
theorem d_M_ranked_46 : decode b_M_ranked 46 = .ok (.iload_n 2, 1) := by decide +kernel
theorem d_M_ranked_47 : decode b_M_ranked 47 = .ok (.iaload, 1) := by decide +kernel
theorem d_M_ranked_48 : decode b_M_ranked 48 = .ok (.ireturn, 1) := by decide +kernel
theorem d_M_rank_0 : decode b_M_rank 0 = .ok (.aload_n 0, 1) := by decide +kernel
theorem d_M_rank_1 : decode b_M_rank 1 = .ok (.iconst 0, 1) := by decide +kernel
theorem d_M_rank_2 : decode b_M_rank 2 = .ok (.putfield 119, 3) := by decide +kernel
theorem d_M_rank_5 : decode b_M_rank 5 = .ok (.iconst 0, 1) := by decide +kernel
theorem d_M_rank_6 : decode b_M_rank 6 = .ok (.istore_n 2, 1) := by decide +kernel
theorem d_M_rank_7 : decode b_M_rank 7 = .ok (.iload_n 2, 1) := by decide +kernel
theorem d_M_rank_8 : decode b_M_rank 8 = .ok (.aload_n 0, 1) := by decide +kernel
theorem d_M_rank_9 : decode b_M_rank 9 = .ok (.getfield 26, 3) := by decide +kernel
theorem d_M_rank_12 : decode b_M_rank 12 = .ok (.if_icmp .ge 128, 3) := by decide +kernel
theorem d_M_rank_15 : decode b_M_rank 15 = .ok (.iconst 0, 1) := by decide +kernel
theorem d_M_rank_16 : decode b_M_rank 16 = .ok (.istore_n 3, 1) := by decide +kernel
theorem d_M_rank_17 : decode b_M_rank 17 = .ok (.iload_n 3, 1) := by decide +kernel
theorem d_M_rank_18 : decode b_M_rank 18 = .ok (.bipush 16, 2) := by decide +kernel
theorem d_M_rank_20 : decode b_M_rank 20 = .ok (.if_icmp .ge 114, 3) := by decide +kernel
theorem d_M_rank_23 : decode b_M_rank 23 = .ok (.aload_n 0, 1) := by decide +kernel
theorem d_M_rank_24 : decode b_M_rank 24 = .ok (.iload_n 1, 1) := by decide +kernel
theorem d_M_rank_25 : decode b_M_rank 25 = .ok (.iload_n 3, 1) := by decide +kernel
theorem d_M_rank_26 : decode b_M_rank 26 = .ok (.invokevirtual 122, 3) := by decide +kernel
theorem d_M_rank_29 : decode b_M_rank 29 = .ok (.ifCond .ne 6, 3) := by decide +kernel
theorem d_M_rank_32 : decode b_M_rank 32 = .ok (.goto 96, 3) := by decide +kernel
theorem d_M_rank_35 : decode b_M_rank 35 = .ok (.iconst 0, 1) := by decide +kernel
theorem d_M_rank_36 : decode b_M_rank 36 = .ok (.istore 4, 2) := by decide +kernel
theorem d_M_rank_38 : decode b_M_rank 38 = .ok (.iconst 0, 1) := by decide +kernel
theorem d_M_rank_39 : decode b_M_rank 39 = .ok (.istore 5, 2) := by decide +kernel
theorem d_M_rank_41 : decode b_M_rank 41 = .ok (.iload 5, 2) := by decide +kernel
theorem d_M_rank_43 : decode b_M_rank 43 = .ok (.bipush 16, 2) := by decide +kernel
theorem d_M_rank_45 : decode b_M_rank 45 = .ok (.if_icmp .ge 60, 3) := by decide +kernel
theorem d_M_rank_48 : decode b_M_rank 48 = .ok (.aload_n 0, 1) := by decide +kernel
theorem d_M_rank_49 : decode b_M_rank 49 = .ok (.iload_n 1, 1) := by decide +kernel
theorem d_M_rank_50 : decode b_M_rank 50 = .ok (.iload 5, 2) := by decide +kernel
theorem d_M_rank_52 : decode b_M_rank 52 = .ok (.invokevirtual 122, 3) := by decide +kernel
theorem d_M_rank_55 : decode b_M_rank 55 = .ok (.ifCond .eq 44, 3) := by decide +kernel
theorem d_M_rank_58 : decode b_M_rank 58 = .ok (.aload_n 0, 1) := by decide +kernel
theorem d_M_rank_59 : decode b_M_rank 59 = .ok (.iload_n 1, 1) := by decide +kernel
theorem d_M_rank_60 : decode b_M_rank 60 = .ok (.iload 5, 2) := by decide +kernel
theorem d_M_rank_62 : decode b_M_rank 62 = .ok (.invokevirtual 125, 3) := by decide +kernel
theorem d_M_rank_65 : decode b_M_rank 65 = .ok (.aload_n 0, 1) := by decide +kernel
theorem d_M_rank_66 : decode b_M_rank 66 = .ok (.iload_n 1, 1) := by decide +kernel
theorem d_M_rank_67 : decode b_M_rank 67 = .ok (.iload_n 3, 1) := by decide +kernel
theorem d_M_rank_68 : decode b_M_rank 68 = .ok (.invokevirtual 125, 3) := by decide +kernel
theorem d_M_rank_71 : decode b_M_rank 71 = .ok (.if_icmp .gt 25, 3) := by decide +kernel
theorem d_M_rank_74 : decode b_M_rank 74 = .ok (.aload_n 0, 1) := by decide +kernel
theorem d_M_rank_75 : decode b_M_rank 75 = .ok (.iload_n 1, 1) := by decide +kernel
theorem d_M_rank_76 : decode b_M_rank 76 = .ok (.iload 5, 2) := by decide +kernel
theorem d_M_rank_78 : decode b_M_rank 78 = .ok (.invokevirtual 125, 3) := by decide +kernel
theorem d_M_rank_81 : decode b_M_rank 81 = .ok (.aload_n 0, 1) := by decide +kernel
theorem d_M_rank_82 : decode b_M_rank 82 = .ok (.iload_n 1, 1) := by decide +kernel
theorem d_M_rank_83 : decode b_M_rank 83 = .ok (.iload_n 3, 1) := by decide +kernel
theorem d_M_rank_84 : decode b_M_rank 84 = .ok (.invokevirtual 125, 3) := by decide +kernel
theorem d_M_rank_87 : decode b_M_rank 87 = .ok (.if_icmp .ne 12, 3) := by decide +kernel
theorem d_M_rank_90 : decode b_M_rank 90 = .ok (.iload 5, 2) := by decide +kernel
theorem d_M_rank_92 : decode b_M_rank 92 = .ok (.iload_n 3, 1) := by decide +kernel
theorem d_M_rank_93 : decode b_M_rank 93 = .ok (.if_icmp .ge 6, 3) := by decide +kernel
theorem d_M_rank_96 : decode b_M_rank 96 = .ok (.iinc 4 1, 3) := by decide +kernel
theorem d_M_rank_99 : decode b_M_rank 99 = .ok (.iinc 5 1, 3) := by decide +kernel
theorem d_M_rank_102 : decode b_M_rank 102 = .ok (.goto (-61), 3) := by decide +kernel
theorem d_M_rank_105 : decode b_M_rank 105 = .ok (.iload 4, 2) := by decide +kernel
theorem d_M_rank_107 : decode b_M_rank 107 = .ok (.iload_n 2, 1) := by decide +kernel
theorem d_M_rank_108 : decode b_M_rank 108 = .ok (.if_icmp .eq 6, 3) := by decide +kernel
theorem d_M_rank_111 : decode b_M_rank 111 = .ok (.goto 17, 3) := by decide +kernel
theorem d_M_rank_114 : decode b_M_rank 114 = .ok (.aload_n 0, 1) := by decide +kernel
theorem d_M_rank_115 : decode b_M_rank 115 = .ok (.getfield 52, 3) := by decide +kernel
theorem d_M_rank_118 : decode b_M_rank 118 = .ok (.iload_n 2, 1) := by decide +kernel
theorem d_M_rank_119 : decode b_M_rank 119 = .ok (.iload_n 3, 1) := by decide +kernel
theorem d_M_rank_120 : decode b_M_rank 120 = .ok (.iastore, 1) := by decide +kernel
theorem d_M_rank_121 : decode b_M_rank 121 = .ok (.aload_n 0, 1) := by decide +kernel
theorem d_M_rank_122 : decode b_M_rank 122 = .ok (.iload_n 2, 1) := by decide +kernel
theorem d_M_rank_123 : decode b_M_rank 123 = .ok (.iconst 1, 1) := by decide +kernel
theorem d_M_rank_124 : decode b_M_rank 124 = .ok (.iadd, 1) := by decide +kernel
theorem d_M_rank_125 : decode b_M_rank 125 = .ok (.putfield 119, 3) := by decide +kernel
theorem d_M_rank_128 : decode b_M_rank 128 = .ok (.iinc 3 1, 3) := by decide +kernel
theorem d_M_rank_131 : decode b_M_rank 131 = .ok (.goto (-114), 3) := by decide +kernel
theorem d_M_rank_134 : decode b_M_rank 134 = .ok (.iinc 2 1, 3) := by decide +kernel
theorem d_M_rank_137 : decode b_M_rank 137 = .ok (.goto (-130), 3) := by decide +kernel
theorem d_M_rank_140 : decode b_M_rank 140 = .ok (.iconst 0, 1) := by decide +kernel
theorem d_M_rank_141 : decode b_M_rank 141 = .ok (.istore_n 2, 1) := by decide +kernel
theorem d_M_rank_142 : decode b_M_rank 142 = .ok (.iload_n 2, 1) := by decide +kernel
theorem d_M_rank_143 : decode b_M_rank 143 = .ok (.aload_n 0, 1) := by decide +kernel
theorem d_M_rank_144 : decode b_M_rank 144 = .ok (.getfield 119, 3) := by decide +kernel
theorem d_M_rank_147 : decode b_M_rank 147 = .ok (.if_icmp .ge 93, 3) := by decide +kernel
theorem d_M_rank_150 : decode b_M_rank 150 = .ok (.iconst 0, 1) := by decide +kernel
theorem d_M_rank_151 : decode b_M_rank 151 = .ok (.istore_n 3, 1) := by decide +kernel
theorem d_M_rank_152 : decode b_M_rank 152 = .ok (.aload_n 0, 1) := by decide +kernel
theorem d_M_rank_153 : decode b_M_rank 153 = .ok (.iload_n 1, 1) := by decide +kernel
theorem d_M_rank_154 : decode b_M_rank 154 = .ok (.aload_n 0, 1) := by decide +kernel
theorem d_M_rank_155 : decode b_M_rank 155 = .ok (.getfield 52, 3) := by decide +kernel
theorem d_M_rank_158 : decode b_M_rank 158 = .ok (.iload_n 2, 1) := by decide +kernel
theorem d_M_rank_159 : decode b_M_rank 159 = .ok (.iaload, 1) := by decide +kernel
theorem d_M_rank_160 : decode b_M_rank 160 = .ok (.invokevirtual 129, 3) := by decide +kernel
theorem d_M_rank_163 : decode b_M_rank 163 = .ok (.lstore 4, 2) := by decide +kernel
theorem d_M_rank_165 : decode b_M_rank 165 = .ok (.iconst 0, 1) := by decide +kernel
theorem d_M_rank_166 : decode b_M_rank 166 = .ok (.istore 6, 2) := by decide +kernel
theorem d_M_rank_168 : decode b_M_rank 168 = .ok (.iload 6, 2) := by decide +kernel
theorem d_M_rank_170 : decode b_M_rank 170 = .ok (.aload_n 0, 1) := by decide +kernel
theorem d_M_rank_171 : decode b_M_rank 171 = .ok (.getfield 119, 3) := by decide +kernel
theorem d_M_rank_174 : decode b_M_rank 174 = .ok (.if_icmp .ge 48, 3) := by decide +kernel
theorem d_M_rank_177 : decode b_M_rank 177 = .ok (.aload_n 0, 1) := by decide +kernel
theorem d_M_rank_178 : decode b_M_rank 178 = .ok (.iload_n 1, 1) := by decide +kernel
theorem d_M_rank_179 : decode b_M_rank 179 = .ok (.aload_n 0, 1) := by decide +kernel
theorem d_M_rank_180 : decode b_M_rank 180 = .ok (.getfield 52, 3) := by decide +kernel
theorem d_M_rank_183 : decode b_M_rank 183 = .ok (.iload 6, 2) := by decide +kernel
theorem d_M_rank_185 : decode b_M_rank 185 = .ok (.iaload, 1) := by decide +kernel
theorem d_M_rank_186 : decode b_M_rank 186 = .ok (.invokevirtual 129, 3) := by decide +kernel
theorem d_M_rank_189 : decode b_M_rank 189 = .ok (.lstore 7, 2) := by decide +kernel
theorem d_M_rank_191 : decode b_M_rank 191 = .ok (.lload 7, 2) := by decide +kernel
theorem d_M_rank_193 : decode b_M_rank 193 = .ok (.lload 4, 2) := by decide +kernel
theorem d_M_rank_195 : decode b_M_rank 195 = .ok (.lcmp, 1) := by decide +kernel
theorem d_M_rank_196 : decode b_M_rank 196 = .ok (.ifCond .gt 17, 3) := by decide +kernel
theorem d_M_rank_199 : decode b_M_rank 199 = .ok (.lload 7, 2) := by decide +kernel
theorem d_M_rank_201 : decode b_M_rank 201 = .ok (.lload 4, 2) := by decide +kernel
theorem d_M_rank_203 : decode b_M_rank 203 = .ok (.lcmp, 1) := by decide +kernel
theorem d_M_rank_204 : decode b_M_rank 204 = .ok (.ifCond .ne 12, 3) := by decide +kernel
theorem d_M_rank_207 : decode b_M_rank 207 = .ok (.iload 6, 2) := by decide +kernel
theorem d_M_rank_209 : decode b_M_rank 209 = .ok (.iload_n 2, 1) := by decide +kernel
theorem d_M_rank_210 : decode b_M_rank 210 = .ok (.if_icmp .ge 6, 3) := by decide +kernel
theorem d_M_rank_213 : decode b_M_rank 213 = .ok (.iinc 3 1, 3) := by decide +kernel
theorem d_M_rank_216 : decode b_M_rank 216 = .ok (.iinc 6 1, 3) := by decide +kernel
theorem d_M_rank_219 : decode b_M_rank 219 = .ok (.goto (-51), 3) := by decide +kernel
theorem d_M_rank_222 : decode b_M_rank 222 = .ok (.aload_n 0, 1) := by decide +kernel
theorem d_M_rank_223 : decode b_M_rank 223 = .ok (.getfield 55, 3) := by decide +kernel
theorem d_M_rank_226 : decode b_M_rank 226 = .ok (.iload_n 3, 1) := by decide +kernel
theorem d_M_rank_227 : decode b_M_rank 227 = .ok (.aload_n 0, 1) := by decide +kernel
theorem d_M_rank_228 : decode b_M_rank 228 = .ok (.getfield 52, 3) := by decide +kernel
theorem d_M_rank_231 : decode b_M_rank 231 = .ok (.iload_n 2, 1) := by decide +kernel
theorem d_M_rank_232 : decode b_M_rank 232 = .ok (.iaload, 1) := by decide +kernel
theorem d_M_rank_233 : decode b_M_rank 233 = .ok (.iastore, 1) := by decide +kernel
theorem d_M_rank_234 : decode b_M_rank 234 = .ok (.iinc 2 1, 3) := by decide +kernel
theorem d_M_rank_237 : decode b_M_rank 237 = .ok (.goto (-95), 3) := by decide +kernel
theorem d_M_rank_240 : decode b_M_rank 240 = .ok (.return_, 1) := by decide +kernel
theorem d_M_found_0 : decode b_M_found 0 = .ok (.aload_n 0, 1) := by decide +kernel
theorem d_M_found_1 : decode b_M_found 1 = .ok (.getfield 7, 3) := by decide +kernel
theorem d_M_found_4 : decode b_M_found 4 = .ok (.iload_n 2, 1) := by decide +kernel
theorem d_M_found_5 : decode b_M_found 5 = .ok (.baload, 1) := by decide +kernel
theorem d_M_found_6 : decode b_M_found 6 = .ok (.ifCond .eq 17, 3) := by decide +kernel
theorem d_M_found_9 : decode b_M_found 9 = .ok (.aload_n 0, 1) := by decide +kernel
theorem d_M_found_10 : decode b_M_found 10 = .ok (.iload_n 1, 1) := by decide +kernel
theorem d_M_found_11 : decode b_M_found 11 = .ok (.iload_n 2, 1) := by decide +kernel
theorem d_M_found_12 : decode b_M_found 12 = .ok (.iconst 0, 1) := by decide +kernel
theorem d_M_found_13 : decode b_M_found 13 = .ok (.invokevirtual 106, 3) := by decide +kernel
theorem d_M_found_16 : decode b_M_found 16 = .ok (.ifCond .le 7, 3) := by decide +kernel
theorem d_M_found_19 : decode b_M_found 19 = .ok (.iconst 1, 1) := by decide +kernel
theorem d_M_found_20 : decode b_M_found 20 = .ok (.goto 4, 3) := by decide +kernel
theorem d_M_found_23 : decode b_M_found 23 = .ok (.iconst 0, 1) := by decide +kernel
theorem d_M_found_24 : decode b_M_found 24 = .ok (.ireturn, 1) := by decide +kernel
theorem d_M_plain_0 : decode b_M_plain 0 = .ok (.bipush 16, 2) := by decide +kernel
theorem d_M_plain_2 : decode b_M_plain 2 = .ok (.aload_n 0, 1) := by decide +kernel
theorem d_M_plain_3 : decode b_M_plain 3 = .ok (.iload_n 1, 1) := by decide +kernel
theorem d_M_plain_4 : decode b_M_plain 4 = .ok (.iload_n 2, 1) := by decide +kernel
theorem d_M_plain_5 : decode b_M_plain 5 = .ok (.iconst 1, 1) := by decide +kernel
theorem d_M_plain_6 : decode b_M_plain 6 = .ok (.invokevirtual 106, 3) := by decide +kernel
theorem d_M_plain_9 : decode b_M_plain 9 = .ok (.imul, 1) := by decide +kernel
theorem d_M_plain_10 : decode b_M_plain 10 = .ok (.iconst 4, 1) := by decide +kernel
theorem d_M_plain_11 : decode b_M_plain 11 = .ok (.aload_n 0, 1) := by decide +kernel
theorem d_M_plain_12 : decode b_M_plain 12 = .ok (.iload_n 1, 1) := by decide +kernel
theorem d_M_plain_13 : decode b_M_plain 13 = .ok (.iload_n 2, 1) := by decide +kernel
theorem d_M_plain_14 : decode b_M_plain 14 = .ok (.iconst 0, 1) := by decide +kernel
theorem d_M_plain_15 : decode b_M_plain 15 = .ok (.invokevirtual 106, 3) := by decide +kernel
theorem d_M_plain_18 : decode b_M_plain 18 = .ok (.imul, 1) := by decide +kernel
theorem d_M_plain_19 : decode b_M_plain 19 = .ok (.iadd, 1) := by decide +kernel
theorem d_M_plain_20 : decode b_M_plain 20 = .ok (.aload_n 0, 1) := by decide +kernel
theorem d_M_plain_21 : decode b_M_plain 21 = .ok (.iload_n 1, 1) := by decide +kernel
theorem d_M_plain_22 : decode b_M_plain 22 = .ok (.iload_n 2, 1) := by decide +kernel
theorem d_M_plain_23 : decode b_M_plain 23 = .ok (.iconst 2, 1) := by decide +kernel
theorem d_M_plain_24 : decode b_M_plain 24 = .ok (.invokevirtual 106, 3) := by decide +kernel
theorem d_M_plain_27 : decode b_M_plain 27 = .ok (.isub, 1) := by decide +kernel
theorem d_M_plain_28 : decode b_M_plain 28 = .ok (.ireturn, 1) := by decide +kernel
theorem d_M_scoreOf_0 : decode b_M_scoreOf 0 = .ok (.lconst 0, 1) := by decide +kernel
theorem d_M_scoreOf_1 : decode b_M_scoreOf 1 = .ok (.lstore_n 3, 1) := by decide +kernel
theorem d_M_scoreOf_2 : decode b_M_scoreOf 2 = .ok (.iconst 0, 1) := by decide +kernel
theorem d_M_scoreOf_3 : decode b_M_scoreOf 3 = .ok (.istore 5, 2) := by decide +kernel
theorem d_M_scoreOf_5 : decode b_M_scoreOf 5 = .ok (.iload 5, 2) := by decide +kernel
theorem d_M_scoreOf_7 : decode b_M_scoreOf 7 = .ok (.aload_n 0, 1) := by decide +kernel
theorem d_M_scoreOf_8 : decode b_M_scoreOf 8 = .ok (.getfield 103, 3) := by decide +kernel
theorem d_M_scoreOf_11 : decode b_M_scoreOf 11 = .ok (.if_icmp .ge 100, 3) := by decide +kernel
theorem d_M_scoreOf_14 : decode b_M_scoreOf 14 = .ok (.iconst 0, 1) := by decide +kernel
theorem d_M_scoreOf_15 : decode b_M_scoreOf 15 = .ok (.istore 6, 2) := by decide +kernel
theorem d_M_scoreOf_17 : decode b_M_scoreOf 17 = .ok (.aload_n 0, 1) := by decide +kernel
theorem d_M_scoreOf_18 : decode b_M_scoreOf 18 = .ok (.getfield 30, 3) := by decide +kernel
theorem d_M_scoreOf_21 : decode b_M_scoreOf 21 = .ok (.iload 5, 2) := by decide +kernel
theorem d_M_scoreOf_23 : decode b_M_scoreOf 23 = .ok (.bipush 7, 2) := by decide +kernel
theorem d_M_scoreOf_25 : decode b_M_scoreOf 25 = .ok (.imul, 1) := by decide +kernel
theorem d_M_scoreOf_26 : decode b_M_scoreOf 26 = .ok (.iload 6, 2) := by decide +kernel
theorem d_M_scoreOf_28 : decode b_M_scoreOf 28 = .ok (.iadd, 1) := by decide +kernel
theorem d_M_scoreOf_29 : decode b_M_scoreOf 29 = .ok (.iaload, 1) := by decide +kernel
theorem d_M_scoreOf_30 : decode b_M_scoreOf 30 = .ok (.iconst 2, 1) := by decide +kernel
theorem d_M_scoreOf_31 : decode b_M_scoreOf 31 = .ok (.if_icmp .ne 58, 3) := by decide +kernel
theorem d_M_scoreOf_34 : decode b_M_scoreOf 34 = .ok (.aload_n 0, 1) := by decide +kernel
theorem d_M_scoreOf_35 : decode b_M_scoreOf 35 = .ok (.iload_n 1, 1) := by decide +kernel
theorem d_M_scoreOf_36 : decode b_M_scoreOf 36 = .ok (.iload_n 2, 1) := by decide +kernel
theorem d_M_scoreOf_37 : decode b_M_scoreOf 37 = .ok (.aload_n 0, 1) := by decide +kernel
theorem d_M_scoreOf_38 : decode b_M_scoreOf 38 = .ok (.getfield 33, 3) := by decide +kernel
theorem d_M_scoreOf_41 : decode b_M_scoreOf 41 = .ok (.iload 5, 2) := by decide +kernel
theorem d_M_scoreOf_43 : decode b_M_scoreOf 43 = .ok (.bipush 7, 2) := by decide +kernel
theorem d_M_scoreOf_45 : decode b_M_scoreOf 45 = .ok (.imul, 1) := by decide +kernel
theorem d_M_scoreOf_46 : decode b_M_scoreOf 46 = .ok (.iload 6, 2) := by decide +kernel
theorem d_M_scoreOf_48 : decode b_M_scoreOf 48 = .ok (.iadd, 1) := by decide +kernel
