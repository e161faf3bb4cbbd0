theorem d_M_scoreOf_49 : decode b_M_scoreOf 49 = .ok (.iaload, 1) := by decide +kernel
theorem d_M_scoreOf_50 : decode b_M_scoreOf 50 = .ok (.invokevirtual 106, 3) := by decide +kernel
theorem d_M_scoreOf_53 : decode b_M_scoreOf 53 = .ok (.aload_n 0, 1) := by decide +kernel
theorem d_M_scoreOf_54 : decode b_M_scoreOf 54 = .ok (.getfield 36, 3) := by decide +kernel
theorem d_M_scoreOf_57 : decode b_M_scoreOf 57 = .ok (.iload 5, 2) := by decide +kernel
theorem d_M_scoreOf_59 : decode b_M_scoreOf 59 = .ok (.bipush 7, 2) := by decide +kernel
theorem d_M_scoreOf_61 : decode b_M_scoreOf 61 = .ok (.imul, 1) := by decide +kernel
theorem d_M_scoreOf_62 : decode b_M_scoreOf 62 = .ok (.iload 6, 2) := by decide +kernel
theorem d_M_scoreOf_64 : decode b_M_scoreOf 64 = .ok (.iadd, 1) := by decide +kernel
theorem d_M_scoreOf_65 : decode b_M_scoreOf 65 = .ok (.iaload, 1) := by decide +kernel
theorem d_M_scoreOf_66 : decode b_M_scoreOf 66 = .ok (.if_icmp .le 12, 3) := by decide +kernel
theorem d_M_scoreOf_69 : decode b_M_scoreOf 69 = .ok (.iconst 2, 1) := by decide +kernel
theorem d_M_scoreOf_70 : decode b_M_scoreOf 70 = .ok (.iload 6, 2) := by decide +kernel
theorem d_M_scoreOf_72 : decode b_M_scoreOf 72 = .ok (.imul, 1) := by decide +kernel
theorem d_M_scoreOf_73 : decode b_M_scoreOf 73 = .ok (.iconst 2, 1) := by decide +kernel
theorem d_M_scoreOf_74 : decode b_M_scoreOf 74 = .ok (.iadd, 1) := by decide +kernel
theorem d_M_scoreOf_75 : decode b_M_scoreOf 75 = .ok (.goto 9, 3) := by decide +kernel
theorem d_M_scoreOf_78 : decode b_M_scoreOf 78 = .ok (.iconst 2, 1) := by decide +kernel
theorem d_M_scoreOf_79 : decode b_M_scoreOf 79 = .ok (.iload 6, 2) := by decide +kernel
theorem d_M_scoreOf_81 : decode b_M_scoreOf 81 = .ok (.imul, 1) := by decide +kernel
theorem d_M_scoreOf_82 : decode b_M_scoreOf 82 = .ok (.iconst 1, 1) := by decide +kernel
theorem d_M_scoreOf_83 : decode b_M_scoreOf 83 = .ok (.iadd, 1) := by decide +kernel
theorem d_M_scoreOf_84 : decode b_M_scoreOf 84 = .ok (.istore 6, 2) := by decide +kernel
theorem d_M_scoreOf_86 : decode b_M_scoreOf 86 = .ok (.goto (-69), 3) := by decide +kernel
theorem d_M_scoreOf_89 : decode b_M_scoreOf 89 = .ok (.lload_n 3, 1) := by decide +kernel
theorem d_M_scoreOf_90 : decode b_M_scoreOf 90 = .ok (.aload_n 0, 1) := by decide +kernel
theorem d_M_scoreOf_91 : decode b_M_scoreOf 91 = .ok (.getfield 39, 3) := by decide +kernel
theorem d_M_scoreOf_94 : decode b_M_scoreOf 94 = .ok (.iload 5, 2) := by decide +kernel
theorem d_M_scoreOf_96 : decode b_M_scoreOf 96 = .ok (.bipush 7, 2) := by decide +kernel
theorem d_M_scoreOf_98 : decode b_M_scoreOf 98 = .ok (.imul, 1) := by decide +kernel
theorem d_M_scoreOf_99 : decode b_M_scoreOf 99 = .ok (.iload 6, 2) := by decide +kernel
theorem d_M_scoreOf_101 : decode b_M_scoreOf 101 = .ok (.iadd, 1) := by decide +kernel
theorem d_M_scoreOf_102 : decode b_M_scoreOf 102 = .ok (.laload, 1) := by decide +kernel
theorem d_M_scoreOf_103 : decode b_M_scoreOf 103 = .ok (.ladd, 1) := by decide +kernel
theorem d_M_scoreOf_104 : decode b_M_scoreOf 104 = .ok (.lstore_n 3, 1) := by decide +kernel
theorem d_M_scoreOf_105 : decode b_M_scoreOf 105 = .ok (.iinc 5 1, 3) := by decide +kernel
theorem d_M_scoreOf_108 : decode b_M_scoreOf 108 = .ok (.goto (-103), 3) := by decide +kernel
theorem d_M_scoreOf_111 : decode b_M_scoreOf 111 = .ok (.lload_n 3, 1) := by decide +kernel
theorem d_M_scoreOf_112 : decode b_M_scoreOf 112 = .ok (.lreturn, 1) := by decide +kernel
theorem d_M_score_0 : decode b_M_score 0 = .ok (.iload_n 1, 1) := by decide +kernel
theorem d_M_score_1 : decode b_M_score 1 = .ok (.bipush 8, 2) := by decide +kernel
theorem d_M_score_3 : decode b_M_score 3 = .ok (.invokestatic 58, 3) := by decide +kernel
theorem d_M_score_6 : decode b_M_score 6 = .ok (.ifCond .eq 11, 3) := by decide +kernel
theorem d_M_score_9 : decode b_M_score 9 = .ok (.aload_n 0, 1) := by decide +kernel
theorem d_M_score_10 : decode b_M_score 10 = .ok (.iload_n 2, 1) := by decide +kernel
theorem d_M_score_11 : decode b_M_score 11 = .ok (.invokevirtual 62, 3) := by decide +kernel
theorem d_M_score_14 : decode b_M_score 14 = .ok (.ifCond .ne 9, 3) := by decide +kernel
theorem d_M_score_17 : decode b_M_score 17 = .ok (.ldc2_w 137, 3) := by decide +kernel
theorem d_M_score_20 : decode b_M_score 20 = .ok (.goto 9, 3) := by decide +kernel
theorem d_M_score_23 : decode b_M_score 23 = .ok (.aload_n 0, 1) := by decide +kernel
theorem d_M_score_24 : decode b_M_score 24 = .ok (.iload_n 1, 1) := by decide +kernel
theorem d_M_score_25 : decode b_M_score 25 = .ok (.iload_n 2, 1) := by decide +kernel
theorem d_M_score_26 : decode b_M_score 26 = .ok (.invokevirtual 129, 3) := by decide +kernel
theorem d_M_score_29 : decode b_M_score 29 = .ok (.lreturn, 1) := by decide +kernel
theorem d_M_merit_0 : decode b_M_merit 0 = .ok (.iload_n 1, 1) := by decide +kernel
theorem d_M_merit_1 : decode b_M_merit 1 = .ok (.bipush 8, 2) := by decide +kernel
theorem d_M_merit_3 : decode b_M_merit 3 = .ok (.invokestatic 58, 3) := by decide +kernel
theorem d_M_merit_6 : decode b_M_merit 6 = .ok (.ifCond .ne 7, 3) := by decide +kernel
theorem d_M_merit_9 : decode b_M_merit 9 = .ok (.ldc2_w 137, 3) := by decide +kernel
theorem d_M_merit_12 : decode b_M_merit 12 = .ok (.lreturn, 1) := by decide +kernel
theorem d_M_merit_13 : decode b_M_merit 13 = .ok (.aload_n 0, 1) := by decide +kernel
theorem d_M_merit_14 : decode b_M_merit 14 = .ok (.iload_n 1, 1) := by decide +kernel
theorem d_M_merit_15 : decode b_M_merit 15 = .ok (.invokevirtual 133, 3) := by decide +kernel
theorem d_M_merit_18 : decode b_M_merit 18 = .ok (.lconst 0, 1) := by decide +kernel
theorem d_M_merit_19 : decode b_M_merit 19 = .ok (.lstore_n 3, 1) := by decide +kernel
theorem d_M_merit_20 : decode b_M_merit 20 = .ok (.iconst 0, 1) := by decide +kernel
theorem d_M_merit_21 : decode b_M_merit 21 = .ok (.istore 5, 2) := by decide +kernel
theorem d_M_merit_23 : decode b_M_merit 23 = .ok (.iload 5, 2) := by decide +kernel
theorem d_M_merit_25 : decode b_M_merit 25 = .ok (.aload_n 0, 1) := by decide +kernel
theorem d_M_merit_26 : decode b_M_merit 26 = .ok (.getfield 119, 3) := by decide +kernel
theorem d_M_merit_29 : decode b_M_merit 29 = .ok (.if_icmp .ge 82, 3) := by decide +kernel
theorem d_M_merit_32 : decode b_M_merit 32 = .ok (.aload_n 0, 1) := by decide +kernel
theorem d_M_merit_33 : decode b_M_merit 33 = .ok (.getfield 23, 3) := by decide +kernel
theorem d_M_merit_36 : decode b_M_merit 36 = .ok (.iload_n 1, 1) := by decide +kernel
theorem d_M_merit_37 : decode b_M_merit 37 = .ok (.bipush 16, 2) := by decide +kernel
theorem d_M_merit_39 : decode b_M_merit 39 = .ok (.imul, 1) := by decide +kernel
theorem d_M_merit_40 : decode b_M_merit 40 = .ok (.iload_n 2, 1) := by decide +kernel
theorem d_M_merit_41 : decode b_M_merit 41 = .ok (.ifCond .eq 13, 3) := by decide +kernel
theorem d_M_merit_44 : decode b_M_merit 44 = .ok (.aload_n 0, 1) := by decide +kernel
theorem d_M_merit_45 : decode b_M_merit 45 = .ok (.getfield 55, 3) := by decide +kernel
theorem d_M_merit_48 : decode b_M_merit 48 = .ok (.iload 5, 2) := by decide +kernel
theorem d_M_merit_50 : decode b_M_merit 50 = .ok (.iaload, 1) := by decide +kernel
theorem d_M_merit_51 : decode b_M_merit 51 = .ok (.goto 10, 3) := by decide +kernel
theorem d_M_merit_54 : decode b_M_merit 54 = .ok (.aload_n 0, 1) := by decide +kernel
theorem d_M_merit_55 : decode b_M_merit 55 = .ok (.getfield 52, 3) := by decide +kernel
theorem d_M_merit_58 : decode b_M_merit 58 = .ok (.iload 5, 2) := by decide +kernel
theorem d_M_merit_60 : decode b_M_merit 60 = .ok (.iaload, 1) := by decide +kernel
theorem d_M_merit_61 : decode b_M_merit 61 = .ok (.iadd, 1) := by decide +kernel
theorem d_M_merit_62 : decode b_M_merit 62 = .ok (.iaload, 1) := by decide +kernel
theorem d_M_merit_63 : decode b_M_merit 63 = .ok (.istore 6, 2) := by decide +kernel
theorem d_M_merit_65 : decode b_M_merit 65 = .ok (.lconst 0, 1) := by decide +kernel
theorem d_M_merit_66 : decode b_M_merit 66 = .ok (.lstore 7, 2) := by decide +kernel
theorem d_M_merit_68 : decode b_M_merit 68 = .ok (.iconst 0, 1) := by decide +kernel
theorem d_M_merit_69 : decode b_M_merit 69 = .ok (.istore 9, 2) := by decide +kernel
theorem d_M_merit_71 : decode b_M_merit 71 = .ok (.iload 9, 2) := by decide +kernel
theorem d_M_merit_73 : decode b_M_merit 73 = .ok (.iload 6, 2) := by decide +kernel
theorem d_M_merit_75 : decode b_M_merit 75 = .ok (.if_icmp .ge 19, 3) := by decide +kernel
theorem d_M_merit_78 : decode b_M_merit 78 = .ok (.ldc2_w 139, 3) := by decide +kernel
theorem d_M_merit_81 : decode b_M_merit 81 = .ok (.lload 7, 2) := by decide +kernel
theorem d_M_merit_83 : decode b_M_merit 83 = .ok (.lmul, 1) := by decide +kernel
theorem d_M_merit_84 : decode b_M_merit 84 = .ok (.lconst 1, 1) := by decide +kernel
theorem d_M_merit_85 : decode b_M_merit 85 = .ok (.ladd, 1) := by decide +kernel
theorem d_M_merit_86 : decode b_M_merit 86 = .ok (.lstore 7, 2) := by decide +kernel
theorem d_M_merit_88 : decode b_M_merit 88 = .ok (.iinc 9 1, 3) := by decide +kernel
theorem d_M_merit_91 : decode b_M_merit 91 = .ok (.goto (-20), 3) := by decide +kernel
theorem d_M_merit_94 : decode b_M_merit 94 = .ok (.lload_n 3, 1) := by decide +kernel
theorem d_M_merit_95 : decode b_M_merit 95 = .ok (.lload 7, 2) := by decide +kernel
theorem d_M_merit_97 : decode b_M_merit 97 = .ok (.bipush 16, 2) := by decide +kernel
theorem d_M_merit_99 : decode b_M_merit 99 = .ok (.iload 5, 2) := by decide +kernel
theorem d_M_merit_101 : decode b_M_merit 101 = .ok (.isub, 1) := by decide +kernel
theorem d_M_merit_102 : decode b_M_merit 102 = .ok (.lshl, 1) := by decide +kernel
theorem d_M_merit_103 : decode b_M_merit 103 = .ok (.ladd, 1) := by decide +kernel
theorem d_M_merit_104 : decode b_M_merit 104 = .ok (.lstore_n 3, 1) := by decide +kernel
theorem d_M_merit_105 : decode b_M_merit 105 = .ok (.iinc 5 1, 3) := by decide +kernel
theorem d_M_merit_108 : decode b_M_merit 108 = .ok (.goto (-85), 3) := by decide +kernel
theorem d_M_merit_111 : decode b_M_merit 111 = .ok (.lload_n 3, 1) := by decide +kernel
theorem d_M_merit_112 : decode b_M_merit 112 = .ok (.lreturn, 1) := by decide +kernel
theorem d_M_rest_0 : decode b_M_rest 0 = .ok (.iconst 0, 1) := by decide +kernel
theorem d_M_rest_1 : decode b_M_rest 1 = .ok (.istore_n 2, 1) := by decide +kernel
theorem d_M_rest_2 : decode b_M_rest 2 = .ok (.iconst 0, 1) := by decide +kernel
theorem d_M_rest_3 : decode b_M_rest 3 = .ok (.istore_n 3, 1) := by decide +kernel
theorem d_M_rest_4 : decode b_M_rest 4 = .ok (.iload_n 3, 1) := by decide +kernel
theorem d_M_rest_5 : decode b_M_rest 5 = .ok (.sipush 128, 3) := by decide +kernel
theorem d_M_rest_8 : decode b_M_rest 8 = .ok (.if_icmp .ge 72, 3) := by decide +kernel
theorem d_M_rest_11 : decode b_M_rest 11 = .ok (.aload_n 0, 1) := by decide +kernel
theorem d_M_rest_12 : decode b_M_rest 12 = .ok (.getfield 23, 3) := by decide +kernel
theorem d_M_rest_15 : decode b_M_rest 15 = .ok (.iload_n 3, 1) := by decide +kernel
theorem d_M_rest_16 : decode b_M_rest 16 = .ok (.iaload, 1) := by decide +kernel
theorem d_M_rest_17 : decode b_M_rest 17 = .ok (.ifCond .ge 6, 3) := by decide +kernel
theorem d_M_rest_20 : decode b_M_rest 20 = .ok (.goto 54, 3) := by decide +kernel
theorem d_M_rest_23 : decode b_M_rest 23 = .ok (.iload_n 2, 1) := by decide +kernel
theorem d_M_rest_24 : decode b_M_rest 24 = .ok (.iload_n 1, 1) := by decide +kernel
theorem d_M_rest_25 : decode b_M_rest 25 = .ok (.if_icmp .ne 46, 3) := by decide +kernel
theorem d_M_rest_28 : decode b_M_rest 28 = .ok (.aload_n 0, 1) := by decide +kernel
theorem d_M_rest_29 : decode b_M_rest 29 = .ok (.getfield 7, 3) := by decide +kernel
theorem d_M_rest_32 : decode b_M_rest 32 = .ok (.iload_n 3, 1) := by decide +kernel
theorem d_M_rest_33 : decode b_M_rest 33 = .ok (.bipush 16, 2) := by decide +kernel
theorem d_M_rest_35 : decode b_M_rest 35 = .ok (.irem, 1) := by decide +kernel
theorem d_M_rest_36 : decode b_M_rest 36 = .ok (.baload, 1) := by decide +kernel
theorem d_M_rest_37 : decode b_M_rest 37 = .ok (.ifCond .eq 30, 3) := by decide +kernel
theorem d_M_rest_40 : decode b_M_rest 40 = .ok (.aload_n 0, 1) := by decide +kernel
theorem d_M_rest_41 : decode b_M_rest 41 = .ok (.getfield 23, 3) := by decide +kernel
theorem d_M_rest_44 : decode b_M_rest 44 = .ok (.iload_n 3, 1) := by decide +kernel
theorem d_M_rest_45 : decode b_M_rest 45 = .ok (.iaload, 1) := by decide +kernel
theorem d_M_rest_46 : decode b_M_rest 46 = .ok (.i2l, 1) := by decide +kernel
theorem d_M_rest_47 : decode b_M_rest 47 = .ok (.ldc2_w 110, 3) := by decide +kernel
theorem d_M_rest_50 : decode b_M_rest 50 = .ok (.lmul, 1) := by decide +kernel
theorem d_M_rest_51 : decode b_M_rest 51 = .ok (.aload_n 0, 1) := by decide +kernel
theorem d_M_rest_52 : decode b_M_rest 52 = .ok (.iload_n 3, 1) := by decide +kernel
theorem d_M_rest_53 : decode b_M_rest 53 = .ok (.bipush 16, 2) := by decide +kernel
theorem d_M_rest_55 : decode b_M_rest 55 = .ok (.idiv, 1) := by decide +kernel
theorem d_M_rest_56 : decode b_M_rest 56 = .ok (.iload_n 3, 1) := by decide +kernel
theorem d_M_rest_57 : decode b_M_rest 57 = .ok (.bipush 16, 2) := by decide +kernel
theorem d_M_rest_59 : decode b_M_rest 59 = .ok (.irem, 1) := by decide +kernel
theorem d_M_rest_60 : decode b_M_rest 60 = .ok (.invokevirtual 129, 3) := by decide +kernel
theorem d_M_rest_63 : decode b_M_rest 63 = .ok (.lsub, 1) := by decide +kernel
theorem d_M_rest_64 : decode b_M_rest 64 = .ok (.goto 6, 3) := by decide +kernel
theorem d_M_rest_67 : decode b_M_rest 67 = .ok (.ldc2_w 137, 3) := by decide +kernel
theorem d_M_rest_70 : decode b_M_rest 70 = .ok (.lreturn, 1) := by decide +kernel
theorem d_M_rest_71 : decode b_M_rest 71 = .ok (.iinc 2 1, 3) := by decide +kernel
theorem d_M_rest_74 : decode b_M_rest 74 = .ok (.iinc 3 1, 3) := by decide +kernel
theorem d_M_rest_77 : decode b_M_rest 77 = .ok (.goto (-73), 3) := by decide +kernel
theorem d_M_rest_80 : decode b_M_rest 80 = .ok (.ldc2_w 137, 3) := by decide +kernel
theorem d_M_rest_83 : decode b_M_rest 83 = .ok (.lreturn, 1) := by decide +kernel
theorem d_M_node_0 : decode b_M_node 0 = .ok (.iload_n 1, 1) := by decide +kernel
theorem d_M_node_1 : decode b_M_node 1 = .ok (.aload_n 0, 1) := by decide +kernel
theorem d_M_node_2 : decode b_M_node 2 = .ok (.getfield 103, 3) := by decide +kernel
theorem d_M_node_5 : decode b_M_node 5 = .ok (.invokestatic 58, 3) := by decide +kernel
theorem d_M_node_8 : decode b_M_node 8 = .ok (.ifCond .eq 34, 3) := by decide +kernel
theorem d_M_node_11 : decode b_M_node 11 = .ok (.iload_n 2, 1) := by decide +kernel
theorem d_M_node_12 : decode b_M_node 12 = .ok (.bipush 7, 2) := by decide +kernel
theorem d_M_node_14 : decode b_M_node 14 = .ok (.invokestatic 58, 3) := by decide +kernel
theorem d_M_node_17 : decode b_M_node 17 = .ok (.ifCond .eq 25, 3) := by decide +kernel
theorem d_M_node_20 : decode b_M_node 20 = .ok (.iload_n 3, 1) := by decide +kernel
theorem d_M_node_21 : decode b_M_node 21 = .ok (.iconst 3, 1) := by decide +kernel
theorem d_M_node_22 : decode b_M_node 22 = .ok (.invokestatic 58, 3) := by decide +kernel
theorem d_M_node_25 : decode b_M_node 25 = .ok (.ifCond .eq 17, 3) := by decide +kernel
theorem d_M_node_28 : decode b_M_node 28 = .ok (.aload_n 0, 1) := by decide +kernel
theorem d_M_node_29 : decode b_M_node 29 = .ok (.getfield 30, 3) := by decide +kernel
theorem d_M_node_32 : decode b_M_node 32 = .ok (.iload_n 1, 1) := by decide +kernel
theorem d_M_node_33 : decode b_M_node 33 = .ok (.bipush 7, 2) := by decide +kernel
theorem d_M_node_35 : decode b_M_node 35 = .ok (.imul, 1) := by decide +kernel
theorem d_M_node_36 : decode b_M_node 36 = .ok (.iload_n 2, 1) := by decide +kernel
theorem d_M_node_37 : decode b_M_node 37 = .ok (.iadd, 1) := by decide +kernel
theorem d_M_node_38 : decode b_M_node 38 = .ok (.iaload, 1) := by decide +kernel
theorem d_M_node_39 : decode b_M_node 39 = .ok (.ifCond .ne 7, 3) := by decide +kernel
theorem d_M_node_42 : decode b_M_node 42 = .ok (.ldc2_w 137, 3) := by decide +kernel
theorem d_M_node_45 : decode b_M_node 45 = .ok (.lreturn, 1) := by decide +kernel
theorem d_M_node_46 : decode b_M_node 46 = .ok (.iload_n 1, 1) := by decide +kernel
theorem d_M_node_47 : decode b_M_node 47 = .ok (.bipush 7, 2) := by decide +kernel
theorem d_M_node_49 : decode b_M_node 49 = .ok (.imul, 1) := by decide +kernel
theorem d_M_node_50 : decode b_M_node 50 = .ok (.iload_n 2, 1) := by decide +kernel
theorem d_M_node_51 : decode b_M_node 51 = .ok (.iadd, 1) := by decide +kernel
theorem d_M_node_52 : decode b_M_node 52 = .ok (.istore 4, 2) := by decide +kernel
theorem d_M_node_54 : decode b_M_node 54 = .ok (.iload_n 3, 1) := by decide +kernel
theorem d_M_node_55 : decode b_M_node 55 = .ok (.iconst 2, 1) := by decide +kernel
theorem d_M_node_56 : decode b_M_node 56 = .ok (.if_icmp .ne 28, 3) := by decide +kernel
theorem d_M_node_59 : decode b_M_node 59 = .ok (.aload_n 0, 1) := by decide +kernel
theorem d_M_node_60 : decode b_M_node 60 = .ok (.getfield 30, 3) := by decide +kernel
theorem d_M_node_63 : decode b_M_node 63 = .ok (.iload 4, 2) := by decide +kernel
theorem d_M_node_65 : decode b_M_node 65 = .ok (.iaload, 1) := by decide +kernel
theorem d_M_node_66 : decode b_M_node 66 = .ok (.iconst 1, 1) := by decide +kernel
theorem d_M_node_67 : decode b_M_node 67 = .ok (.if_icmp .ne 13, 3) := by decide +kernel
theorem d_M_node_70 : decode b_M_node 70 = .ok (.aload_n 0, 1) := by decide +kernel
theorem d_M_node_71 : decode b_M_node 71 = .ok (.getfield 39, 3) := by decide +kernel
theorem d_M_node_74 : decode b_M_node 74 = .ok (.iload 4, 2) := by decide +kernel
theorem d_M_node_76 : decode b_M_node 76 = .ok (.laload, 1) := by decide +kernel
theorem d_M_node_77 : decode b_M_node 77 = .ok (.goto 6, 3) := by decide +kernel
theorem d_M_node_80 : decode b_M_node 80 = .ok (.ldc2_w 137, 3) := by decide +kernel
theorem d_M_node_83 : decode b_M_node 83 = .ok (.lreturn, 1) := by decide +kernel
theorem d_M_node_84 : decode b_M_node 84 = .ok (.aload_n 0, 1) := by decide +kernel
theorem d_M_node_85 : decode b_M_node 85 = .ok (.getfield 30, 3) := by decide +kernel
theorem d_M_node_88 : decode b_M_node 88 = .ok (.iload 4, 2) := by decide +kernel
theorem d_M_node_90 : decode b_M_node 90 = .ok (.iaload, 1) := by decide +kernel
theorem d_M_node_91 : decode b_M_node 91 = .ok (.iconst 1, 1) := by decide +kernel
theorem d_M_node_92 : decode b_M_node 92 = .ok (.if_icmp .ne 9, 3) := by decide +kernel
theorem d_M_node_95 : decode b_M_node 95 = .ok (.ldc2_w 141, 3) := by decide +kernel
theorem d_M_node_98 : decode b_M_node 98 = .ok (.goto 26, 3) := by decide +kernel
theorem d_M_node_101 : decode b_M_node 101 = .ok (.iload_n 3, 1) := by decide +kernel
theorem d_M_node_102 : decode b_M_node 102 = .ok (.ifCond .ne 14, 3) := by decide +kernel
theorem d_M_node_105 : decode b_M_node 105 = .ok (.aload_n 0, 1) := by decide +kernel
theorem d_M_node_106 : decode b_M_node 106 = .ok (.getfield 33, 3) := by decide +kernel
theorem d_M_node_109 : decode b_M_node 109 = .ok (.iload 4, 2) := by decide +kernel
theorem d_M_node_111 : decode b_M_node 111 = .ok (.iaload, 1) := by decide +kernel
theorem d_M_node_112 : decode b_M_node 112 = .ok (.i2l, 1) := by decide +kernel
theorem d_M_node_113 : decode b_M_node 113 = .ok (.goto 11, 3) := by decide +kernel
theorem d_M_node_116 : decode b_M_node 116 = .ok (.aload_n 0, 1) := by decide +kernel
theorem d_M_node_117 : decode b_M_node 117 = .ok (.getfield 36, 3) := by decide +kernel
theorem d_M_node_120 : decode b_M_node 120 = .ok (.iload 4, 2) := by decide +kernel
theorem d_M_node_122 : decode b_M_node 122 = .ok (.iaload, 1) := by decide +kernel
theorem d_M_node_123 : decode b_M_node 123 = .ok (.i2l, 1) := by decide +kernel
theorem d_M_node_124 : decode b_M_node 124 = .ok (.lreturn, 1) := by decide +kernel
theorem d_M_count_0 : decode b_M_count 0 = .ok (.iload_n 1, 1) := by decide +kernel
theorem d_M_count_1 : decode b_M_count 1 = .ok (.ifCond .ge 18, 3) := by decide +kernel
theorem d_M_count_4 : decode b_M_count 4 = .ok (.iload_n 1, 1) := by decide +kernel
theorem d_M_count_5 : decode b_M_count 5 = .ok (.bipush (-8), 2) := by decide +kernel
theorem d_M_count_7 : decode b_M_count 7 = .ok (.if_icmp .lt 12, 3) := by decide +kernel
theorem d_M_count_10 : decode b_M_count 10 = .ok (.aload_n 0, 1) := by decide +kernel
theorem d_M_count_11 : decode b_M_count 11 = .ok (.getfield 20, 3) := by decide +kernel
theorem d_M_count_14 : decode b_M_count 14 = .ok (.iconst (-1), 1) := by decide +kernel
theorem d_M_count_15 : decode b_M_count 15 = .ok (.iload_n 1, 1) := by decide +kernel
theorem d_M_count_16 : decode b_M_count 16 = .ok (.isub, 1) := by decide +kernel
theorem d_M_count_17 : decode b_M_count 17 = .ok (.iaload, 1) := by decide +kernel
theorem d_M_count_18 : decode b_M_count 18 = .ok (.ireturn, 1) := by decide +kernel
theorem d_M_count_19 : decode b_M_count 19 = .ok (.iconst 0, 1) := by decide +kernel
theorem d_M_count_20 : decode b_M_count 20 = .ok (.istore_n 2, 1) := by decide +kernel
theorem d_M_count_21 : decode b_M_count 21 = .ok (.iconst 0, 1) := by decide +kernel
theorem d_M_count_22 : decode b_M_count 22 = .ok (.istore_n 3, 1) := by decide +kernel
theorem d_M_count_23 : decode b_M_count 23 = .ok (.iload_n 3, 1) := by decide +kernel
theorem d_M_count_24 : decode b_M_count 24 = .ok (.bipush 16, 2) := by decide +kernel
theorem d_M_count_26 : decode b_M_count 26 = .ok (.if_icmp .ge 45, 3) := by decide +kernel
theorem d_M_count_29 : decode b_M_count 29 = .ok (.aload_n 0, 1) := by decide +kernel
theorem d_M_count_30 : decode b_M_count 30 = .ok (.getfield 7, 3) := by decide +kernel
theorem d_M_count_33 : decode b_M_count 33 = .ok (.iload_n 3, 1) := by decide +kernel
theorem d_M_count_34 : decode b_M_count 34 = .ok (.baload, 1) := by decide +kernel
theorem d_M_count_35 : decode b_M_count 35 = .ok (.ifCond .ne 6, 3) := by decide +kernel
theorem d_M_count_38 : decode b_M_count 38 = .ok (.goto 27, 3) := by decide +kernel
theorem d_M_count_41 : decode b_M_count 41 = .ok (.iload_n 1, 1) := by decide +kernel
theorem d_M_count_42 : decode b_M_count 42 = .ok (.ifCond .ne 6, 3) := by decide +kernel
theorem d_M_count_45 : decode b_M_count 45 = .ok (.iinc 2 1, 3) := by decide +kernel
theorem d_M_count_48 : decode b_M_count 48 = .ok (.iload_n 1, 1) := by decide +kernel
theorem d_M_count_49 : decode b_M_count 49 = .ok (.sipush 1000, 3) := by decide +kernel
theorem d_M_count_52 : decode b_M_count 52 = .ok (.if_icmp .ne 13, 3) := by decide +kernel
theorem d_M_count_55 : decode b_M_count 55 = .ok (.iload_n 2, 1) := by decide +kernel
theorem d_M_count_56 : decode b_M_count 56 = .ok (.aload_n 0, 1) := by decide +kernel
theorem d_M_count_57 : decode b_M_count 57 = .ok (.iconst 0, 1) := by decide +kernel
theorem d_M_count_58 : decode b_M_count 58 = .ok (.iload_n 3, 1) := by decide +kernel
theorem d_M_count_59 : decode b_M_count 59 = .ok (.iconst 2, 1) := by decide +kernel
theorem d_M_count_60 : decode b_M_count 60 = .ok (.invokevirtual 106, 3) := by decide +kernel
theorem d_M_count_63 : decode b_M_count 63 = .ok (.iadd, 1) := by decide +kernel
theorem d_M_count_64 : decode b_M_count 64 = .ok (.istore_n 2, 1) := by decide +kernel
theorem d_M_count_65 : decode b_M_count 65 = .ok (.iinc 3 1, 3) := by decide +kernel
theorem d_M_count_68 : decode b_M_count 68 = .ok (.goto (-45), 3) := by decide +kernel
theorem d_M_count_71 : decode b_M_count 71 = .ok (.iconst 0, 1) := by decide +kernel
theorem d_M_count_72 : decode b_M_count 72 = .ok (.istore_n 3, 1) := by decide +kernel
theorem d_M_count_73 : decode b_M_count 73 = .ok (.iload_n 3, 1) := by decide +kernel
theorem d_M_count_74 : decode b_M_count 74 = .ok (.sipush 128, 3) := by decide +kernel
theorem d_M_count_77 : decode b_M_count 77 = .ok (.if_icmp .ge 62, 3) := by decide +kernel
theorem d_M_count_80 : decode b_M_count 80 = .ok (.aload_n 0, 1) := by decide +kernel
theorem d_M_count_81 : decode b_M_count 81 = .ok (.getfield 23, 3) := by decide +kernel
theorem d_M_count_84 : decode b_M_count 84 = .ok (.iload_n 3, 1) := by decide +kernel
theorem d_M_count_85 : decode b_M_count 85 = .ok (.iaload, 1) := by decide +kernel
theorem d_M_count_86 : decode b_M_count 86 = .ok (.ifCond .ge 6, 3) := by decide +kernel
theorem d_M_count_89 : decode b_M_count 89 = .ok (.goto 44, 3) := by decide +kernel
theorem d_M_count_92 : decode b_M_count 92 = .ok (.iload_n 1, 1) := by decide +kernel
theorem d_M_count_93 : decode b_M_count 93 = .ok (.iconst 1, 1) := by decide +kernel
theorem d_M_count_94 : decode b_M_count 94 = .ok (.if_icmp .eq 20, 3) := by decide +kernel
theorem d_M_count_97 : decode b_M_count 97 = .ok (.iload_n 1, 1) := by decide +kernel
theorem d_M_count_98 : decode b_M_count 98 = .ok (.iconst 2, 1) := by decide +kernel
theorem d_M_count_99 : decode b_M_count 99 = .ok (.if_icmp .ne 18, 3) := by decide +kernel
theorem d_M_count_102 : decode b_M_count 102 = .ok (.aload_n 0, 1) := by decide +kernel
theorem d_M_count_103 : decode b_M_count 103 = .ok (.getfield 7, 3) := by decide +kernel
theorem d_M_count_106 : decode b_M_count 106 = .ok (.iload_n 3, 1) := by decide +kernel
theorem d_M_count_107 : decode b_M_count 107 = .ok (.bipush 16, 2) := by decide +kernel
theorem d_M_count_109 : decode b_M_count 109 = .ok (.irem, 1) := by decide +kernel
theorem d_M_count_110 : decode b_M_count 110 = .ok (.baload, 1) := by decide +kernel
theorem d_M_count_111 : decode b_M_count 111 = .ok (.ifCond .eq 6, 3) := by decide +kernel
theorem d_M_count_114 : decode b_M_count 114 = .ok (.iinc 2 1, 3) := by decide +kernel
theorem d_M_count_117 : decode b_M_count 117 = .ok (.iload_n 1, 1) := by decide +kernel
theorem d_M_count_118 : decode b_M_count 118 = .ok (.sipush 10000, 3) := by decide +kernel
theorem d_M_count_121 : decode b_M_count 121 = .ok (.if_icmp .ne 12, 3) := by decide +kernel
theorem d_M_count_124 : decode b_M_count 124 = .ok (.iload_n 2, 1) := by decide +kernel
theorem d_M_count_125 : decode b_M_count 125 = .ok (.aload_n 0, 1) := by decide +kernel
theorem d_M_count_126 : decode b_M_count 126 = .ok (.getfield 23, 3) := by decide +kernel
theorem d_M_count_129 : decode b_M_count 129 = .ok (.iload_n 3, 1) := by decide +kernel
theorem d_M_count_130 : decode b_M_count 130 = .ok (.iaload, 1) := by decide +kernel
theorem d_M_count_131 : decode b_M_count 131 = .ok (.iadd, 1) := by decide +kernel
theorem d_M_count_132 : decode b_M_count 132 = .ok (.istore_n 2, 1) := by decide +kernel
theorem d_M_count_133 : decode b_M_count 133 = .ok (.iinc 3 1, 3) := by decide +kernel
theorem d_M_count_136 : decode b_M_count 136 = .ok (.goto (-63), 3) := by decide +kernel
theorem d_M_count_139 : decode b_M_count 139 = .ok (.iload_n 1, 1) := by decide +kernel
theorem d_M_count_140 : decode b_M_count 140 = .ok (.ifCond .lt 8, 3) := by decide +kernel
theorem d_M_count_143 : decode b_M_count 143 = .ok (.iload_n 1, 1) := by decide +kernel
theorem d_M_count_144 : decode b_M_count 144 = .ok (.iconst 3, 1) := by decide +kernel
theorem d_M_count_145 : decode b_M_count 145 = .ok (.if_icmp .lt 17, 3) := by decide +kernel
theorem d_M_count_148 : decode b_M_count 148 = .ok (.iload_n 1, 1) := by decide +kernel
theorem d_M_count_149 : decode b_M_count 149 = .ok (.sipush 1000, 3) := by decide +kernel
theorem d_M_count_152 : decode b_M_count 152 = .ok (.if_icmp .eq 10, 3) := by decide +kernel
theorem d_M_count_155 : decode b_M_count 155 = .ok (.iload_n 1, 1) := by decide +kernel
theorem d_M_count_156 : decode b_M_count 156 = .ok (.sipush 10000, 3) := by decide +kernel
theorem d_M_count_159 : decode b_M_count 159 = .ok (.if_icmp .ne 5, 3) := by decide +kernel
theorem d_M_count_162 : decode b_M_count 162 = .ok (.iload_n 2, 1) := by decide +kernel
theorem d_M_count_163 : decode b_M_count 163 = .ok (.ireturn, 1) := by decide +kernel
theorem d_M_count_164 : decode b_M_count 164 = .ok (.iload_n 1, 1) := by decide +kernel
theorem d_M_count_165 : decode b_M_count 165 = .ok (.iconst 3, 1) := by decide +kernel
theorem d_M_count_166 : decode b_M_count 166 = .ok (.if_icmp .ne 8, 3) := by decide +kernel
theorem d_M_count_169 : decode b_M_count 169 = .ok (.aload_n 0, 1) := by decide +kernel
theorem d_M_count_170 : decode b_M_count 170 = .ok (.getfield 103, 3) := by decide +kernel
theorem d_M_count_173 : decode b_M_count 173 = .ok (.ireturn, 1) := by decide +kernel
theorem d_M_count_174 : decode b_M_count 174 = .ok (.iload_n 1, 1) := by decide +kernel
theorem d_M_count_175 : decode b_M_count 175 = .ok (.iconst 4, 1) := by decide +kernel
theorem d_M_count_176 : decode b_M_count 176 = .ok (.if_icmp .ne 8, 3) := by decide +kernel
theorem d_M_count_179 : decode b_M_count 179 = .ok (.aload_n 0, 1) := by decide +kernel
theorem d_M_count_180 : decode b_M_count 180 = .ok (.getfield 26, 3) := by decide +kernel
theorem d_M_count_183 : decode b_M_count 183 = .ok (.ireturn, 1) := by decide +kernel
theorem d_M_count_184 : decode b_M_count 184 = .ok (.iload_n 1, 1) := by decide +kernel
theorem d_M_count_185 : decode b_M_count 185 = .ok (.iconst 5, 1) := by decide +kernel
theorem d_M_count_186 : decode b_M_count 186 = .ok (.if_icmp .ne 11, 3) := by decide +kernel
theorem d_M_count_189 : decode b_M_count 189 = .ok (.aload_n 0, 1) := by decide +kernel
theorem d_M_count_190 : decode b_M_count 190 = .ok (.iconst 2, 1) := by decide +kernel
theorem d_M_count_191 : decode b_M_count 191 = .ok (.invokevirtual 116, 3) := by decide +kernel
theorem d_M_count_194 : decode b_M_count 194 = .ok (.goto 6, 3) := by decide +kernel
theorem d_M_count_197 : decode b_M_count 197 = .ok (.sipush (-1000), 3) := by decide +kernel
theorem d_M_count_200 : decode b_M_count 200 = .ok (.ireturn, 1) := by decide +kernel
theorem d_law_law_0 : decode code 0 = .ok (.new 7, 3) := by decide +kernel
theorem d_law_law_3 : decode code 3 = .ok (.dup, 1) := by decide +kernel
theorem d_law_law_4 : decode code 4 = .ok (.invokespecial 9, 3) := by decide +kernel
theorem d_law_law_7 : decode code 7 = .ok (.astore_n 1, 1) := by decide +kernel
theorem d_law_law_8 : decode code 8 = .ok (.new 10, 3) := by decide +kernel
theorem d_law_law_11 : decode code 11 = .ok (.dup, 1) := by decide +kernel
theorem d_law_law_12 : decode code 12 = .ok (.invokespecial 12, 3) := by decide +kernel
theorem d_law_law_15 : decode code 15 = .ok (.astore_n 2, 1) := by decide +kernel
theorem d_law_law_16 : decode code 16 = .ok (.iconst 0, 1) := by decide +kernel
theorem d_law_law_17 : decode code 17 = .ok (.istore_n 3, 1) := by decide +kernel
theorem d_law_law_18 : decode code 18 = .ok (.iload_n 3, 1) := by decide +kernel
theorem d_law_law_19 : decode code 19 = .ok (.aload_n 0, 1) := by decide +kernel
theorem d_law_law_20 : decode code 20 = .ok (.arraylength, 1) := by decide +kernel
theorem d_law_law_21 : decode code 21 = .ok (.iconst 4, 1) := by decide +kernel
theorem d_law_law_22 : decode code 22 = .ok (.isub, 1) := by decide +kernel
theorem d_law_law_23 : decode code 23 = .ok (.if_icmp .gt 602, 3) := by decide +kernel
theorem d_law_law_26 : decode code 26 = .ok (.aload_n 0, 1) := by decide +kernel
theorem d_law_law_27 : decode code 27 = .ok (.iload_n 3, 1) := by decide +kernel
theorem d_law_law_28 : decode code 28 = .ok (.iaload, 1) := by decide +kernel
theorem d_law_law_29 : decode code 29 = .ok (.bipush 15, 2) := by decide +kernel
theorem d_law_law_31 : decode code 31 = .ok (.iand, 1) := by decide +kernel
theorem d_law_law_32 : decode code 32 = .ok (.tableswitch 587 0 13 #[72, 105, 128, 171, 204, 247, 270, 313, 356, 415, 448, 498, 521, 564], 72) := by decide +kernel
theorem d_law_law_104 : decode code 104 = .ok (.aload_n 1, 1) := by decide +kernel
theorem d_law_law_105 : decode code 105 = .ok (.aload_n 0, 1) := by decide +kernel
theorem d_law_law_106 : decode code 106 = .ok (.iload_n 3, 1) := by decide +kernel
theorem d_law_law_107 : decode code 107 = .ok (.iconst 1, 1) := by decide +kernel
theorem d_law_law_108 : decode code 108 = .ok (.iadd, 1) := by decide +kernel
theorem d_law_law_109 : decode code 109 = .ok (.iaload, 1) := by decide +kernel
theorem d_law_law_110 : decode code 110 = .ok (.aload_n 0, 1) := by decide +kernel
theorem d_law_law_111 : decode code 111 = .ok (.iload_n 3, 1) := by decide +kernel
theorem d_law_law_112 : decode code 112 = .ok (.iconst 2, 1) := by decide +kernel
theorem d_law_law_113 : decode code 113 = .ok (.iadd, 1) := by decide +kernel
theorem d_law_law_114 : decode code 114 = .ok (.iaload, 1) := by decide +kernel
theorem d_law_law_115 : decode code 115 = .ok (.invokevirtual 13, 3) := by decide +kernel
theorem d_law_law_118 : decode code 118 = .ok (.pop, 1) := by decide +kernel
theorem d_law_law_119 : decode code 119 = .ok (.aload_n 2, 1) := by decide +kernel
theorem d_law_law_120 : decode code 120 = .ok (.aload_n 0, 1) := by decide +kernel
theorem d_law_law_121 : decode code 121 = .ok (.iload_n 3, 1) := by decide +kernel
theorem d_law_law_122 : decode code 122 = .ok (.iconst 1, 1) := by decide +kernel
theorem d_law_law_123 : decode code 123 = .ok (.iadd, 1) := by decide +kernel
theorem d_law_law_124 : decode code 124 = .ok (.iaload, 1) := by decide +kernel
theorem d_law_law_125 : decode code 125 = .ok (.aload_n 0, 1) := by decide +kernel
theorem d_law_law_126 : decode code 126 = .ok (.iload_n 3, 1) := by decide +kernel
theorem d_law_law_127 : decode code 127 = .ok (.iconst 2, 1) := by decide +kernel
theorem d_law_law_128 : decode code 128 = .ok (.iadd, 1) := by decide +kernel
theorem d_law_law_129 : decode code 129 = .ok (.iaload, 1) := by decide +kernel
theorem d_law_law_130 : decode code 130 = .ok (.invokevirtual 17, 3) := by decide +kernel
theorem d_law_law_133 : decode code 133 = .ok (.pop, 1) := by decide +kernel
theorem d_law_law_134 : decode code 134 = .ok (.goto 485, 3) := by decide +kernel
theorem d_law_law_137 : decode code 137 = .ok (.aload_n 1, 1) := by decide +kernel
theorem d_law_law_138 : decode code 138 = .ok (.aload_n 0, 1) := by decide +kernel
theorem d_law_law_139 : decode code 139 = .ok (.iload_n 3, 1) := by decide +kernel
theorem d_law_law_140 : decode code 140 = .ok (.iconst 1, 1) := by decide +kernel
theorem d_law_law_141 : decode code 141 = .ok (.iadd, 1) := by decide +kernel
theorem d_law_law_142 : decode code 142 = .ok (.iaload, 1) := by decide +kernel
theorem d_law_law_143 : decode code 143 = .ok (.invokevirtual 18, 3) := by decide +kernel
theorem d_law_law_146 : decode code 146 = .ok (.pop, 1) := by decide +kernel
theorem d_law_law_147 : decode code 147 = .ok (.aload_n 2, 1) := by decide +kernel
theorem d_law_law_148 : decode code 148 = .ok (.aload_n 0, 1) := by decide +kernel
theorem d_law_law_149 : decode code 149 = .ok (.iload_n 3, 1) := by decide +kernel
theorem d_law_law_150 : decode code 150 = .ok (.iconst 1, 1) := by decide +kernel
theorem d_law_law_151 : decode code 151 = .ok (.iadd, 1) := by decide +kernel
theorem d_law_law_152 : decode code 152 = .ok (.iaload, 1) := by decide +kernel
theorem d_law_law_153 : decode code 153 = .ok (.invokevirtual 22, 3) := by decide +kernel
theorem d_law_law_156 : decode code 156 = .ok (.pop, 1) := by decide +kernel
theorem d_law_law_157 : decode code 157 = .ok (.goto 462, 3) := by decide +kernel
theorem d_law_law_160 : decode code 160 = .ok (.aload_n 1, 1) := by decide +kernel
theorem d_law_law_161 : decode code 161 = .ok (.aload_n 0, 1) := by decide +kernel
theorem d_law_law_162 : decode code 162 = .ok (.iload_n 3, 1) := by decide +kernel
theorem d_law_law_163 : decode code 163 = .ok (.iconst 1, 1) := by decide +kernel
theorem d_law_law_164 : decode code 164 = .ok (.iadd, 1) := by decide +kernel
theorem d_law_law_165 : decode code 165 = .ok (.iaload, 1) := by decide +kernel
theorem d_law_law_166 : decode code 166 = .ok (.aload_n 0, 1) := by decide +kernel
theorem d_law_law_167 : decode code 167 = .ok (.iload_n 3, 1) := by decide +kernel
theorem d_law_law_168 : decode code 168 = .ok (.iconst 2, 1) := by decide +kernel
theorem d_law_law_169 : decode code 169 = .ok (.iadd, 1) := by decide +kernel
theorem d_law_law_170 : decode code 170 = .ok (.iaload, 1) := by decide +kernel
theorem d_law_law_171 : decode code 171 = .ok (.aload_n 0, 1) := by decide +kernel
theorem d_law_law_172 : decode code 172 = .ok (.iload_n 3, 1) := by decide +kernel
theorem d_law_law_173 : decode code 173 = .ok (.iconst 3, 1) := by decide +kernel
theorem d_law_law_174 : decode code 174 = .ok (.iadd, 1) := by decide +kernel
theorem d_law_law_175 : decode code 175 = .ok (.iaload, 1) := by decide +kernel
theorem d_law_law_176 : decode code 176 = .ok (.invokevirtual 23, 3) := by decide +kernel
theorem d_law_law_179 : decode code 179 = .ok (.pop, 1) := by decide +kernel
theorem d_law_law_180 : decode code 180 = .ok (.aload_n 2, 1) := by decide +kernel
theorem d_law_law_181 : decode code 181 = .ok (.aload_n 0, 1) := by decide +kernel
theorem d_law_law_182 : decode code 182 = .ok (.iload_n 3, 1) := by decide +kernel
theorem d_law_law_183 : decode code 183 = .ok (.iconst 1, 1) := by decide +kernel
theorem d_law_law_184 : decode code 184 = .ok (.iadd, 1) := by decide +kernel
theorem d_law_law_185 : decode code 185 = .ok (.iaload, 1) := by decide +kernel
theorem d_law_law_186 : decode code 186 = .ok (.aload_n 0, 1) := by decide +kernel
theorem d_law_law_187 : decode code 187 = .ok (.iload_n 3, 1) := by decide +kernel
theorem d_law_law_188 : decode code 188 = .ok (.iconst 2, 1) := by decide +kernel
theorem d_law_law_189 : decode code 189 = .ok (.iadd, 1) := by decide +kernel
theorem d_law_law_190 : decode code 190 = .ok (.iaload, 1) := by decide +kernel
theorem d_law_law_191 : decode code 191 = .ok (.aload_n 0, 1) := by decide +kernel
theorem d_law_law_192 : decode code 192 = .ok (.iload_n 3, 1) := by decide +kernel
theorem d_law_law_193 : decode code 193 = .ok (.iconst 3, 1) := by decide +kernel
theorem d_law_law_194 : decode code 194 = .ok (.iadd, 1) := by decide +kernel
theorem d_law_law_195 : decode code 195 = .ok (.iaload, 1) := by decide +kernel
theorem d_law_law_196 : decode code 196 = .ok (.invokevirtual 27, 3) := by decide +kernel
theorem d_law_law_199 : decode code 199 = .ok (.pop, 1) := by decide +kernel
theorem d_law_law_200 : decode code 200 = .ok (.goto 419, 3) := by decide +kernel
theorem d_law_law_203 : decode code 203 = .ok (.aload_n 1, 1) := by decide +kernel
theorem d_law_law_204 : decode code 204 = .ok (.aload_n 0, 1) := by decide +kernel
theorem d_law_law_205 : decode code 205 = .ok (.iload_n 3, 1) := by decide +kernel
theorem d_law_law_206 : decode code 206 = .ok (.iconst 1, 1) := by decide +kernel
theorem d_law_law_207 : decode code 207 = .ok (.iadd, 1) := by decide +kernel
theorem d_law_law_208 : decode code 208 = .ok (.iaload, 1) := by decide +kernel
theorem d_law_law_209 : decode code 209 = .ok (.aload_n 0, 1) := by decide +kernel
theorem d_law_law_210 : decode code 210 = .ok (.iload_n 3, 1) := by decide +kernel
theorem d_law_law_211 : decode code 211 = .ok (.iconst 2, 1) := by decide +kernel
theorem d_law_law_212 : decode code 212 = .ok (.iadd, 1) := by decide +kernel
theorem d_law_law_213 : decode code 213 = .ok (.iaload, 1) := by decide +kernel
theorem d_law_law_214 : decode code 214 = .ok (.invokevirtual 28, 3) := by decide +kernel
theorem d_law_law_217 : decode code 217 = .ok (.pop, 1) := by decide +kernel
theorem d_law_law_218 : decode code 218 = .ok (.aload_n 2, 1) := by decide +kernel
theorem d_law_law_219 : decode code 219 = .ok (.aload_n 0, 1) := by decide +kernel
theorem d_law_law_220 : decode code 220 = .ok (.iload_n 3, 1) := by decide +kernel
theorem d_law_law_221 : decode code 221 = .ok (.iconst 1, 1) := by decide +kernel
theorem d_law_law_222 : decode code 222 = .ok (.iadd, 1) := by decide +kernel
theorem d_law_law_223 : decode code 223 = .ok (.iaload, 1) := by decide +kernel
theorem d_law_law_224 : decode code 224 = .ok (.aload_n 0, 1) := by decide +kernel
theorem d_law_law_225 : decode code 225 = .ok (.iload_n 3, 1) := by decide +kernel
theorem d_law_law_226 : decode code 226 = .ok (.iconst 2, 1) := by decide +kernel
theorem d_law_law_227 : decode code 227 = .ok (.iadd, 1) := by decide +kernel
theorem d_law_law_228 : decode code 228 = .ok (.iaload, 1) := by decide +kernel
theorem d_law_law_229 : decode code 229 = .ok (.invokevirtual 31, 3) := by decide +kernel
theorem d_law_law_232 : decode code 232 = .ok (.pop, 1) := by decide +kernel
theorem d_law_law_233 : decode code 233 = .ok (.goto 386, 3) := by decide +kernel
theorem d_law_law_236 : decode code 236 = .ok (.aload_n 1, 1) := by decide +kernel
theorem d_law_law_237 : decode code 237 = .ok (.aload_n 0, 1) := by decide +kernel
theorem d_law_law_238 : decode code 238 = .ok (.iload_n 3, 1) := by decide +kernel
theorem d_law_law_239 : decode code 239 = .ok (.iconst 1, 1) := by decide +kernel
theorem d_law_law_240 : decode code 240 = .ok (.iadd, 1) := by decide +kernel
theorem d_law_law_241 : decode code 241 = .ok (.iaload, 1) := by decide +kernel
theorem d_law_law_242 : decode code 242 = .ok (.aload_n 0, 1) := by decide +kernel
theorem d_law_law_243 : decode code 243 = .ok (.iload_n 3, 1) := by decide +kernel
theorem d_law_law_244 : decode code 244 = .ok (.iconst 2, 1) := by decide +kernel
theorem d_law_law_245 : decode code 245 = .ok (.iadd, 1) := by decide +kernel
theorem d_law_law_246 : decode code 246 = .ok (.iaload, 1) := by decide +kernel
theorem d_law_law_247 : decode code 247 = .ok (.aload_n 0, 1) := by decide +kernel
theorem d_law_law_248 : decode code 248 = .ok (.iload_n 3, 1) := by decide +kernel
theorem d_law_law_249 : decode code 249 = .ok (.iconst 3, 1) := by decide +kernel
theorem d_law_law_250 : decode code 250 = .ok (.iadd, 1) := by decide +kernel
theorem d_law_law_251 : decode code 251 = .ok (.iaload, 1) := by decide +kernel
theorem d_law_law_252 : decode code 252 = .ok (.invokevirtual 32, 3) := by decide +kernel
theorem d_law_law_255 : decode code 255 = .ok (.pop, 1) := by decide +kernel
theorem d_law_law_256 : decode code 256 = .ok (.aload_n 2, 1) := by decide +kernel
theorem d_law_law_257 : decode code 257 = .ok (.aload_n 0, 1) := by decide +kernel
theorem d_law_law_258 : decode code 258 = .ok (.iload_n 3, 1) := by decide +kernel
theorem d_law_law_259 : decode code 259 = .ok (.iconst 1, 1) := by decide +kernel
theorem d_law_law_260 : decode code 260 = .ok (.iadd, 1) := by decide +kernel
theorem d_law_law_261 : decode code 261 = .ok (.iaload, 1) := by decide +kernel
theorem d_law_law_262 : decode code 262 = .ok (.aload_n 0, 1) := by decide +kernel
theorem d_law_law_263 : decode code 263 = .ok (.iload_n 3, 1) := by decide +kernel
theorem d_law_law_264 : decode code 264 = .ok (.iconst 2, 1) := by decide +kernel
theorem d_law_law_265 : decode code 265 = .ok (.iadd, 1) := by decide +kernel
theorem d_law_law_266 : decode code 266 = .ok (.iaload, 1) := by decide +kernel
theorem d_law_law_267 : decode code 267 = .ok (.aload_n 0, 1) := by decide +kernel
theorem d_law_law_268 : decode code 268 = .ok (.iload_n 3, 1) := by decide +kernel
theorem d_law_law_269 : decode code 269 = .ok (.iconst 3, 1) := by decide +kernel
theorem d_law_law_270 : decode code 270 = .ok (.iadd, 1) := by decide +kernel
theorem d_law_law_271 : decode code 271 = .ok (.iaload, 1) := by decide +kernel
theorem d_law_law_272 : decode code 272 = .ok (.invokevirtual 35, 3) := by decide +kernel
theorem d_law_law_275 : decode code 275 = .ok (.pop, 1) := by decide +kernel
theorem d_law_law_276 : decode code 276 = .ok (.goto 343, 3) := by decide +kernel
theorem d_law_law_279 : decode code 279 = .ok (.aload_n 1, 1) := by decide +kernel
theorem d_law_law_280 : decode code 280 = .ok (.aload_n 0, 1) := by decide +kernel
theorem d_law_law_281 : decode code 281 = .ok (.iload_n 3, 1) := by decide +kernel
theorem d_law_law_282 : decode code 282 = .ok (.iconst 1, 1) := by decide +kernel
theorem d_law_law_283 : decode code 283 = .ok (.iadd, 1) := by decide +kernel
theorem d_law_law_284 : decode code 284 = .ok (.iaload, 1) := by decide +kernel
theorem d_law_law_285 : decode code 285 = .ok (.invokevirtual 36, 3) := by decide +kernel
theorem d_law_law_288 : decode code 288 = .ok (.pop, 1) := by decide +kernel
theorem d_law_law_289 : decode code 289 = .ok (.aload_n 2, 1) := by decide +kernel
theorem d_law_law_290 : decode code 290 = .ok (.aload_n 0, 1) := by decide +kernel
theorem d_law_law_291 : decode code 291 = .ok (.iload_n 3, 1) := by decide +kernel
theorem d_law_law_292 : decode code 292 = .ok (.iconst 1, 1) := by decide +kernel
theorem d_law_law_293 : decode code 293 = .ok (.iadd, 1) := by decide +kernel
theorem d_law_law_294 : decode code 294 = .ok (.iaload, 1) := by decide +kernel
theorem d_law_law_295 : decode code 295 = .ok (.invokevirtual 39, 3) := by decide +kernel
theorem d_law_law_298 : decode code 298 = .ok (.pop, 1) := by decide +kernel
theorem d_law_law_299 : decode code 299 = .ok (.goto 320, 3) := by decide +kernel
theorem d_law_law_302 : decode code 302 = .ok (.aload_n 1, 1) := by decide +kernel
theorem d_law_law_303 : decode code 303 = .ok (.aload_n 0, 1) := by decide +kernel
theorem d_law_law_304 : decode code 304 = .ok (.iload_n 3, 1) := by decide +kernel
theorem d_law_law_305 : decode code 305 = .ok (.iconst 1, 1) := by decide +kernel
theorem d_law_law_306 : decode code 306 = .ok (.iadd, 1) := by decide +kernel
theorem d_law_law_307 : decode code 307 = .ok (.iaload, 1) := by decide +kernel
theorem d_law_law_308 : decode code 308 = .ok (.aload_n 0, 1) := by decide +kernel
theorem d_law_law_309 : decode code 309 = .ok (.iload_n 3, 1) := by decide +kernel
theorem d_law_law_310 : decode code 310 = .ok (.iconst 2, 1) := by decide +kernel
theorem d_law_law_311 : decode code 311 = .ok (.iadd, 1) := by decide +kernel
theorem d_law_law_312 : decode code 312 = .ok (.iaload, 1) := by decide +kernel
theorem d_law_law_313 : decode code 313 = .ok (.aload_n 0, 1) := by decide +kernel
theorem d_law_law_314 : decode code 314 = .ok (.iload_n 3, 1) := by decide +kernel
theorem d_law_law_315 : decode code 315 = .ok (.iconst 3, 1) := by decide +kernel
theorem d_law_law_316 : decode code 316 = .ok (.iadd, 1) := by decide +kernel
theorem d_law_law_317 : decode code 317 = .ok (.iaload, 1) := by decide +kernel
theorem d_law_law_318 : decode code 318 = .ok (.invokevirtual 40, 3) := by decide +kernel
theorem d_law_law_321 : decode code 321 = .ok (.pop, 1) := by decide +kernel
theorem d_law_law_322 : decode code 322 = .ok (.aload_n 2, 1) := by decide +kernel
theorem d_law_law_323 : decode code 323 = .ok (.aload_n 0, 1) := by decide +kernel
theorem d_law_law_324 : decode code 324 = .ok (.iload_n 3, 1) := by decide +kernel
theorem d_law_law_325 : decode code 325 = .ok (.iconst 1, 1) := by decide +kernel
theorem d_law_law_326 : decode code 326 = .ok (.iadd, 1) := by decide +kernel
theorem d_law_law_327 : decode code 327 = .ok (.iaload, 1) := by decide +kernel
theorem d_law_law_328 : decode code 328 = .ok (.aload_n 0, 1) := by decide +kernel
theorem d_law_law_329 : decode code 329 = .ok (.iload_n 3, 1) := by decide +kernel
theorem d_law_law_330 : decode code 330 = .ok (.iconst 2, 1) := by decide +kernel
theorem d_law_law_331 : decode code 331 = .ok (.iadd, 1) := by decide +kernel
theorem d_law_law_332 : decode code 332 = .ok (.iaload, 1) := by decide +kernel
theorem d_law_law_333 : decode code 333 = .ok (.aload_n 0, 1) := by decide +kernel
theorem d_law_law_334 : decode code 334 = .ok (.iload_n 3, 1) := by decide +kernel
theorem d_law_law_335 : decode code 335 = .ok (.iconst 3, 1) := by decide +kernel
theorem d_law_law_336 : decode code 336 = .ok (.iadd, 1) := by decide +kernel
theorem d_law_law_337 : decode code 337 = .ok (.iaload, 1) := by decide +kernel
theorem d_law_law_338 : decode code 338 = .ok (.invokevirtual 43, 3) := by decide +kernel
theorem d_law_law_341 : decode code 341 = .ok (.pop, 1) := by decide +kernel
theorem d_law_law_342 : decode code 342 = .ok (.goto 277, 3) := by decide +kernel
theorem d_law_law_345 : decode code 345 = .ok (.aload_n 1, 1) := by decide +kernel
theorem d_law_law_346 : decode code 346 = .ok (.aload_n 0, 1) := by decide +kernel
theorem d_law_law_347 : decode code 347 = .ok (.iload_n 3, 1) := by decide +kernel
theorem d_law_law_348 : decode code 348 = .ok (.iconst 1, 1) := by decide +kernel
theorem d_law_law_349 : decode code 349 = .ok (.iadd, 1) := by decide +kernel
theorem d_law_law_350 : decode code 350 = .ok (.iaload, 1) := by decide +kernel
theorem d_law_law_351 : decode code 351 = .ok (.aload_n 0, 1) := by decide +kernel
theorem d_law_law_352 : decode code 352 = .ok (.iload_n 3, 1) := by decide +kernel
theorem d_law_law_353 : decode code 353 = .ok (.iconst 2, 1) := by decide +kernel
theorem d_law_law_354 : decode code 354 = .ok (.iadd, 1) := by decide +kernel
theorem d_law_law_355 : decode code 355 = .ok (.iaload, 1) := by decide +kernel
theorem d_law_law_356 : decode code 356 = .ok (.aload_n 0, 1) := by decide +kernel
theorem d_law_law_357 : decode code 357 = .ok (.iload_n 3, 1) := by decide +kernel
theorem d_law_law_358 : decode code 358 = .ok (.iconst 3, 1) := by decide +kernel
theorem d_law_law_359 : decode code 359 = .ok (.iadd, 1) := by decide +kernel
theorem d_law_law_360 : decode code 360 = .ok (.iaload, 1) := by decide +kernel
theorem d_law_law_361 : decode code 361 = .ok (.invokevirtual 44, 3) := by decide +kernel
theorem d_law_law_364 : decode code 364 = .ok (.pop, 1) := by decide +kernel
theorem d_law_law_365 : decode code 365 = .ok (.aload_n 2, 1) := by decide +kernel
theorem d_law_law_366 : decode code 366 = .ok (.aload_n 0, 1) := by decide +kernel
theorem d_law_law_367 : decode code 367 = .ok (.iload_n 3, 1) := by decide +kernel
theorem d_law_law_368 : decode code 368 = .ok (.iconst 1, 1) := by decide +kernel
theorem d_law_law_369 : decode code 369 = .ok (.iadd, 1) := by decide +kernel
theorem d_law_law_370 : decode code 370 = .ok (.iaload, 1) := by decide +kernel
theorem d_law_law_371 : decode code 371 = .ok (.aload_n 0, 1) := by decide +kernel
theorem d_law_law_372 : decode code 372 = .ok (.iload_n 3, 1) := by decide +kernel
theorem d_law_law_373 : decode code 373 = .ok (.iconst 2, 1) := by decide +kernel
theorem d_law_law_374 : decode code 374 = .ok (.iadd, 1) := by decide +kernel
theorem d_law_law_375 : decode code 375 = .ok (.iaload, 1) := by decide +kernel
theorem d_law_law_376 : decode code 376 = .ok (.aload_n 0, 1) := by decide +kernel
theorem d_law_law_377 : decode code 377 = .ok (.iload_n 3, 1) := by decide +kernel
theorem d_law_law_378 : decode code 378 = .ok (.iconst 3, 1) := by decide +kernel
theorem d_law_law_379 : decode code 379 = .ok (.iadd, 1) := by decide +kernel
theorem d_law_law_380 : decode code 380 = .ok (.iaload, 1) := by decide +kernel
theorem d_law_law_381 : decode code 381 = .ok (.invokevirtual 47, 3) := by decide +kernel
theorem d_law_law_384 : decode code 384 = .ok (.pop, 1) := by decide +kernel
theorem d_law_law_385 : decode code 385 = .ok (.goto 234, 3) := by decide +kernel
theorem d_law_law_388 : decode code 388 = .ok (.aload_n 1, 1) := by decide +kernel
theorem d_law_law_389 : decode code 389 = .ok (.aload_n 0, 1) := by decide +kernel
theorem d_law_law_390 : decode code 390 = .ok (.iload_n 3, 1) := by decide +kernel
theorem d_law_law_391 : decode code 391 = .ok (.iconst 1, 1) := by decide +kernel
theorem d_law_law_392 : decode code 392 = .ok (.iadd, 1) := by decide +kernel
theorem d_law_law_393 : decode code 393 = .ok (.iaload, 1) := by decide +kernel
theorem d_law_law_394 : decode code 394 = .ok (.aload_n 0, 1) := by decide +kernel
theorem d_law_law_395 : decode code 395 = .ok (.iload_n 3, 1) := by decide +kernel
theorem d_law_law_396 : decode code 396 = .ok (.iconst 2, 1) := by decide +kernel
theorem d_law_law_397 : decode code 397 = .ok (.iadd, 1) := by decide +kernel
theorem d_law_law_398 : decode code 398 = .ok (.iaload, 1) := by decide +kernel
theorem d_law_law_399 : decode code 399 = .ok (.aload_n 0, 1) := by decide +kernel
theorem d_law_law_400 : decode code 400 = .ok (.iload_n 3, 1) := by decide +kernel
theorem d_law_law_401 : decode code 401 = .ok (.iconst 3, 1) := by decide +kernel
theorem d_law_law_402 : decode code 402 = .ok (.iadd, 1) := by decide +kernel
theorem d_law_law_403 : decode code 403 = .ok (.iaload, 1) := by decide +kernel
theorem d_law_law_404 : decode code 404 = .ok (.ifCond .eq 7, 3) := by decide +kernel
theorem d_law_law_407 : decode code 407 = .ok (.iconst 1, 1) := by decide +kernel
theorem d_law_law_408 : decode code 408 = .ok (.goto 4, 3) := by decide +kernel
theorem d_law_law_411 : decode code 411 = .ok (.iconst 0, 1) := by decide +kernel
theorem d_law_law_412 : decode code 412 = .ok (.invokevirtual 48, 3) := by decide +kernel
theorem d_law_law_415 : decode code 415 = .ok (.pop, 1) := by decide +kernel
theorem d_law_law_416 : decode code 416 = .ok (.aload_n 2, 1) := by decide +kernel
theorem d_law_law_417 : decode code 417 = .ok (.aload_n 0, 1) := by decide +kernel
theorem d_law_law_418 : decode code 418 = .ok (.iload_n 3, 1) := by decide +kernel
theorem d_law_law_419 : decode code 419 = .ok (.iconst 1, 1) := by decide +kernel
theorem d_law_law_420 : decode code 420 = .ok (.iadd, 1) := by decide +kernel
theorem d_law_law_421 : decode code 421 = .ok (.iaload, 1) := by decide +kernel
theorem d_law_law_422 : decode code 422 = .ok (.aload_n 0, 1) := by decide +kernel
theorem d_law_law_423 : decode code 423 = .ok (.iload_n 3, 1) := by decide +kernel
theorem d_law_law_424 : decode code 424 = .ok (.iconst 2, 1) := by decide +kernel
theorem d_law_law_425 : decode code 425 = .ok (.iadd, 1) := by decide +kernel
theorem d_law_law_426 : decode code 426 = .ok (.iaload, 1) := by decide +kernel
theorem d_law_law_427 : decode code 427 = .ok (.aload_n 0, 1) := by decide +kernel
theorem d_law_law_428 : decode code 428 = .ok (.iload_n 3, 1) := by decide +kernel
theorem d_law_law_429 : decode code 429 = .ok (.iconst 3, 1) := by decide +kernel
theorem d_law_law_430 : decode code 430 = .ok (.iadd, 1) := by decide +kernel
theorem d_law_law_431 : decode code 431 = .ok (.iaload, 1) := by decide +kernel
theorem d_law_law_432 : decode code 432 = .ok (.ifCond .eq 7, 3) := by decide +kernel
theorem d_law_law_435 : decode code 435 = .ok (.iconst 1, 1) := by decide +kernel
theorem d_law_law_436 : decode code 436 = .ok (.goto 4, 3) := by decide +kernel
theorem d_law_law_439 : decode code 439 = .ok (.iconst 0, 1) := by decide +kernel
theorem d_law_law_440 : decode code 440 = .ok (.invokevirtual 52, 3) := by decide +kernel
theorem d_law_law_443 : decode code 443 = .ok (.pop, 1) := by decide +kernel
theorem d_law_law_444 : decode code 444 = .ok (.goto 175, 3) := by decide +kernel
theorem d_law_law_447 : decode code 447 = .ok (.aload_n 1, 1) := by decide +kernel
theorem d_law_law_448 : decode code 448 = .ok (.aload_n 0, 1) := by decide +kernel
theorem d_law_law_449 : decode code 449 = .ok (.iload_n 3, 1) := by decide +kernel
theorem d_law_law_450 : decode code 450 = .ok (.iconst 1, 1) := by decide +kernel
theorem d_law_law_451 : decode code 451 = .ok (.iadd, 1) := by decide +kernel
theorem d_law_law_452 : decode code 452 = .ok (.iaload, 1) := by decide +kernel
theorem d_law_law_453 : decode code 453 = .ok (.aload_n 0, 1) := by decide +kernel
theorem d_law_law_454 : decode code 454 = .ok (.iload_n 3, 1) := by decide +kernel
theorem d_law_law_455 : decode code 455 = .ok (.iconst 2, 1) := by decide +kernel
theorem d_law_law_456 : decode code 456 = .ok (.iadd, 1) := by decide +kernel
theorem d_law_law_457 : decode code 457 = .ok (.iaload, 1) := by decide +kernel
theorem d_law_law_458 : decode code 458 = .ok (.invokevirtual 53, 3) := by decide +kernel
theorem d_law_law_461 : decode code 461 = .ok (.pop2, 1) := by decide +kernel
theorem d_law_law_462 : decode code 462 = .ok (.aload_n 2, 1) := by decide +kernel
theorem d_law_law_463 : decode code 463 = .ok (.aload_n 0, 1) := by decide +kernel
theorem d_law_law_464 : decode code 464 = .ok (.iload_n 3, 1) := by decide +kernel
theorem d_law_law_465 : decode code 465 = .ok (.iconst 1, 1) := by decide +kernel
theorem d_law_law_466 : decode code 466 = .ok (.iadd, 1) := by decide +kernel
theorem d_law_law_467 : decode code 467 = .ok (.iaload, 1) := by decide +kernel
theorem d_law_law_468 : decode code 468 = .ok (.aload_n 0, 1) := by decide +kernel
theorem d_law_law_469 : decode code 469 = .ok (.iload_n 3, 1) := by decide +kernel
theorem d_law_law_470 : decode code 470 = .ok (.iconst 2, 1) := by decide +kernel
theorem d_law_law_471 : decode code 471 = .ok (.iadd, 1) := by decide +kernel
theorem d_law_law_472 : decode code 472 = .ok (.iaload, 1) := by decide +kernel
theorem d_law_law_473 : decode code 473 = .ok (.invokevirtual 57, 3) := by decide +kernel
theorem d_law_law_476 : decode code 476 = .ok (.pop2, 1) := by decide +kernel
theorem d_law_law_477 : decode code 477 = .ok (.goto 142, 3) := by decide +kernel
theorem d_law_law_480 : decode code 480 = .ok (.aload_n 1, 1) := by decide +kernel
theorem d_law_law_481 : decode code 481 = .ok (.aload_n 0, 1) := by decide +kernel
theorem d_law_law_482 : decode code 482 = .ok (.iload_n 3, 1) := by decide +kernel
theorem d_law_law_483 : decode code 483 = .ok (.iconst 1, 1) := by decide +kernel
theorem d_law_law_484 : decode code 484 = .ok (.iadd, 1) := by decide +kernel
theorem d_law_law_485 : decode code 485 = .ok (.iaload, 1) := by decide +kernel
theorem d_law_law_486 : decode code 486 = .ok (.aload_n 0, 1) := by decide +kernel
theorem d_law_law_487 : decode code 487 = .ok (.iload_n 3, 1) := by decide +kernel
theorem d_law_law_488 : decode code 488 = .ok (.iconst 2, 1) := by decide +kernel
theorem d_law_law_489 : decode code 489 = .ok (.iadd, 1) := by decide +kernel
theorem d_law_law_490 : decode code 490 = .ok (.iaload, 1) := by decide +kernel
theorem d_law_law_491 : decode code 491 = .ok (.ifCond .eq 7, 3) := by decide +kernel
theorem d_law_law_494 : decode code 494 = .ok (.iconst 1, 1) := by decide +kernel
theorem d_law_law_495 : decode code 495 = .ok (.goto 4, 3) := by decide +kernel
theorem d_law_law_498 : decode code 498 = .ok (.iconst 0, 1) := by decide +kernel
theorem d_law_law_499 : decode code 499 = .ok (.invokevirtual 58, 3) := by decide +kernel
theorem d_law_law_502 : decode code 502 = .ok (.aload_n 2, 1) := by decide +kernel
theorem d_law_law_503 : decode code 503 = .ok (.aload_n 0, 1) := by decide +kernel
theorem d_law_law_504 : decode code 504 = .ok (.iload_n 3, 1) := by decide +kernel
theorem d_law_law_505 : decode code 505 = .ok (.iconst 1, 1) := by decide +kernel
theorem d_law_law_506 : decode code 506 = .ok (.iadd, 1) := by decide +kernel
theorem d_law_law_507 : decode code 507 = .ok (.iaload, 1) := by decide +kernel
theorem d_law_law_508 : decode code 508 = .ok (.aload_n 0, 1) := by decide +kernel
theorem d_law_law_509 : decode code 509 = .ok (.iload_n 3, 1) := by decide +kernel
theorem d_law_law_510 : decode code 510 = .ok (.iconst 2, 1) := by decide +kernel
theorem d_law_law_511 : decode code 511 = .ok (.iadd, 1) := by decide +kernel
theorem d_law_law_512 : decode code 512 = .ok (.iaload, 1) := by decide +kernel
theorem d_law_law_513 : decode code 513 = .ok (.ifCond .eq 7, 3) := by decide +kernel
theorem d_law_law_516 : decode code 516 = .ok (.iconst 1, 1) := by decide +kernel
theorem d_law_law_517 : decode code 517 = .ok (.goto 4, 3) := by decide +kernel
theorem d_law_law_520 : decode code 520 = .ok (.iconst 0, 1) := by decide +kernel
theorem d_law_law_521 : decode code 521 = .ok (.invokevirtual 62, 3) := by decide +kernel
theorem d_law_law_524 : decode code 524 = .ok (.lcmp, 1) := by decide +kernel
theorem d_law_law_525 : decode code 525 = .ok (.ifCond .eq 94, 3) := by decide +kernel
theorem d_law_law_528 : decode code 528 = .ok (.iconst 0, 1) := by decide +kernel
theorem d_law_law_529 : decode code 529 = .ok (.ireturn, 1) := by decide +kernel
theorem d_law_law_530 : decode code 530 = .ok (.aload_n 1, 1) := by decide +kernel
theorem d_law_law_531 : decode code 531 = .ok (.aload_n 0, 1) := by decide +kernel
theorem d_law_law_532 : decode code 532 = .ok (.iload_n 3, 1) := by decide +kernel
theorem d_law_law_533 : decode code 533 = .ok (.iconst 1, 1) := by decide +kernel
theorem d_law_law_534 : decode code 534 = .ok (.iadd, 1) := by decide +kernel
theorem d_law_law_535 : decode code 535 = .ok (.iaload, 1) := by decide +kernel
theorem d_law_law_536 : decode code 536 = .ok (.invokevirtual 63, 3) := by decide +kernel
theorem d_law_law_539 : decode code 539 = .ok (.pop2, 1) := by decide +kernel
theorem d_law_law_540 : decode code 540 = .ok (.aload_n 2, 1) := by decide +kernel
theorem d_law_law_541 : decode code 541 = .ok (.aload_n 0, 1) := by decide +kernel
theorem d_law_law_542 : decode code 542 = .ok (.iload_n 3, 1) := by decide +kernel
theorem d_law_law_543 : decode code 543 = .ok (.iconst 1, 1) := by decide +kernel
theorem d_law_law_544 : decode code 544 = .ok (.iadd, 1) := by decide +kernel
theorem d_law_law_545 : decode code 545 = .ok (.iaload, 1) := by decide +kernel
theorem d_law_law_546 : decode code 546 = .ok (.invokevirtual 67, 3) := by decide +kernel
theorem d_law_law_549 : decode code 549 = .ok (.pop2, 1) := by decide +kernel
theorem d_law_law_550 : decode code 550 = .ok (.goto 69, 3) := by decide +kernel
theorem d_law_law_553 : decode code 553 = .ok (.aload_n 1, 1) := by decide +kernel
theorem d_law_law_554 : decode code 554 = .ok (.aload_n 0, 1) := by decide +kernel
theorem d_law_law_555 : decode code 555 = .ok (.iload_n 3, 1) := by decide +kernel
theorem d_law_law_556 : decode code 556 = .ok (.iconst 1, 1) := by decide +kernel
theorem d_law_law_557 : decode code 557 = .ok (.iadd, 1) := by decide +kernel
theorem d_law_law_558 : decode code 558 = .ok (.iaload, 1) := by decide +kernel
theorem d_law_law_559 : decode code 559 = .ok (.aload_n 0, 1) := by decide +kernel
theorem d_law_law_560 : decode code 560 = .ok (.iload_n 3, 1) := by decide +kernel
theorem d_law_law_561 : decode code 561 = .ok (.iconst 2, 1) := by decide +kernel
theorem d_law_law_562 : decode code 562 = .ok (.iadd, 1) := by decide +kernel
theorem d_law_law_563 : decode code 563 = .ok (.iaload, 1) := by decide +kernel
theorem d_law_law_564 : decode code 564 = .ok (.aload_n 0, 1) := by decide +kernel
theorem d_law_law_565 : decode code 565 = .ok (.iload_n 3, 1) := by decide +kernel
theorem d_law_law_566 : decode code 566 = .ok (.iconst 3, 1) := by decide +kernel
theorem d_law_law_567 : decode code 567 = .ok (.iadd, 1) := by decide +kernel
theorem d_law_law_568 : decode code 568 = .ok (.iaload, 1) := by decide +kernel
theorem d_law_law_569 : decode code 569 = .ok (.invokevirtual 68, 3) := by decide +kernel
theorem d_law_law_572 : decode code 572 = .ok (.pop2, 1) := by decide +kernel
theorem d_law_law_573 : decode code 573 = .ok (.aload_n 2, 1) := by decide +kernel
theorem d_law_law_574 : decode code 574 = .ok (.aload_n 0, 1) := by decide +kernel
theorem d_law_law_575 : decode code 575 = .ok (.iload_n 3, 1) := by decide +kernel
theorem d_law_law_576 : decode code 576 = .ok (.iconst 1, 1) := by decide +kernel
theorem d_law_law_577 : decode code 577 = .ok (.iadd, 1) := by decide +kernel
theorem d_law_law_578 : decode code 578 = .ok (.iaload, 1) := by decide +kernel
theorem d_law_law_579 : decode code 579 = .ok (.aload_n 0, 1) := by decide +kernel
theorem d_law_law_580 : decode code 580 = .ok (.iload_n 3, 1) := by decide +kernel
theorem d_law_law_581 : decode code 581 = .ok (.iconst 2, 1) := by decide +kernel
theorem d_law_law_582 : decode code 582 = .ok (.iadd, 1) := by decide +kernel
theorem d_law_law_583 : decode code 583 = .ok (.iaload, 1) := by decide +kernel
theorem d_law_law_584 : decode code 584 = .ok (.aload_n 0, 1) := by decide +kernel
theorem d_law_law_585 : decode code 585 = .ok (.iload_n 3, 1) := by decide +kernel
theorem d_law_law_586 : decode code 586 = .ok (.iconst 3, 1) := by decide +kernel
theorem d_law_law_587 : decode code 587 = .ok (.iadd, 1) := by decide +kernel
theorem d_law_law_588 : decode code 588 = .ok (.iaload, 1) := by decide +kernel
theorem d_law_law_589 : decode code 589 = .ok (.invokevirtual 72, 3) := by decide +kernel
theorem d_law_law_592 : decode code 592 = .ok (.pop2, 1) := by decide +kernel
theorem d_law_law_593 : decode code 593 = .ok (.goto 26, 3) := by decide +kernel
theorem d_law_law_596 : decode code 596 = .ok (.aload_n 1, 1) := by decide +kernel
theorem d_law_law_597 : decode code 597 = .ok (.aload_n 0, 1) := by decide +kernel
theorem d_law_law_598 : decode code 598 = .ok (.iload_n 3, 1) := by decide +kernel
theorem d_law_law_599 : decode code 599 = .ok (.iconst 1, 1) := by decide +kernel
theorem d_law_law_600 : decode code 600 = .ok (.iadd, 1) := by decide +kernel
theorem d_law_law_601 : decode code 601 = .ok (.iaload, 1) := by decide +kernel
theorem d_law_law_602 : decode code 602 = .ok (.invokevirtual 73, 3) := by decide +kernel
theorem d_law_law_605 : decode code 605 = .ok (.pop, 1) := by decide +kernel
theorem d_law_law_606 : decode code 606 = .ok (.aload_n 2, 1) := by decide +kernel
theorem d_law_law_607 : decode code 607 = .ok (.aload_n 0, 1) := by decide +kernel
theorem d_law_law_608 : decode code 608 = .ok (.iload_n 3, 1) := by decide +kernel
theorem d_law_law_609 : decode code 609 = .ok (.iconst 1, 1) := by decide +kernel
theorem d_law_law_610 : decode code 610 = .ok (.iadd, 1) := by decide +kernel
theorem d_law_law_611 : decode code 611 = .ok (.iaload, 1) := by decide +kernel
theorem d_law_law_612 : decode code 612 = .ok (.invokevirtual 76, 3) := by decide +kernel
theorem d_law_law_615 : decode code 615 = .ok (.pop, 1) := by decide +kernel
theorem d_law_law_616 : decode code 616 = .ok (.goto 3, 3) := by decide +kernel
theorem d_law_law_619 : decode code 619 = .ok (.iinc 3 4, 3) := by decide +kernel
theorem d_law_law_622 : decode code 622 = .ok (.goto (-604), 3) := by decide +kernel
theorem d_law_law_625 : decode code 625 = .ok (.iconst 1, 1) := by decide +kernel
theorem d_law_law_626 : decode code 626 = .ok (.ireturn, 1) := by decide +kernel
