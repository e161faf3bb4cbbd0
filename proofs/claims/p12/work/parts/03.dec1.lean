theorem d_Gr_weighSplit_48 : decode b_Gr_weighSplit 48 = .ok (.lload 7, 2) := by decide +kernel
theorem d_Gr_weighSplit_50 : decode b_Gr_weighSplit 50 = .ok (.aload_n 0, 1) := by decide +kernel
theorem d_Gr_weighSplit_51 : decode b_Gr_weighSplit 51 = .ok (.getfield 41, 3) := by decide +kernel
theorem d_Gr_weighSplit_54 : decode b_Gr_weighSplit 54 = .ok (.lcmp, 1) := by decide +kernel
theorem d_Gr_weighSplit_55 : decode b_Gr_weighSplit 55 = .ok (.ifCond .le 19, 3) := by decide +kernel
theorem d_Gr_weighSplit_58 : decode b_Gr_weighSplit 58 = .ok (.aload_n 0, 1) := by decide +kernel
theorem d_Gr_weighSplit_59 : decode b_Gr_weighSplit 59 = .ok (.lload 7, 2) := by decide +kernel
theorem d_Gr_weighSplit_61 : decode b_Gr_weighSplit 61 = .ok (.putfield 41, 3) := by decide +kernel
theorem d_Gr_weighSplit_64 : decode b_Gr_weighSplit 64 = .ok (.aload_n 0, 1) := by decide +kernel
theorem d_Gr_weighSplit_65 : decode b_Gr_weighSplit 65 = .ok (.iload_n 1, 1) := by decide +kernel
theorem d_Gr_weighSplit_66 : decode b_Gr_weighSplit 66 = .ok (.putfield 44, 3) := by decide +kernel
theorem d_Gr_weighSplit_69 : decode b_Gr_weighSplit 69 = .ok (.aload_n 0, 1) := by decide +kernel
theorem d_Gr_weighSplit_70 : decode b_Gr_weighSplit 70 = .ok (.iload_n 2, 1) := by decide +kernel
theorem d_Gr_weighSplit_71 : decode b_Gr_weighSplit 71 = .ok (.putfield 47, 3) := by decide +kernel
theorem d_Gr_weighSplit_74 : decode b_Gr_weighSplit 74 = .ok (.return_, 1) := by decide +kernel
theorem d_Tr_makeSplit_0 : decode b_Tr_makeSplit 0 = .ok (.aload_n 0, 1) := by decide +kernel
theorem d_Tr_makeSplit_1 : decode b_Tr_makeSplit 1 = .ok (.getfield 9, 3) := by decide +kernel
theorem d_Tr_makeSplit_4 : decode b_Tr_makeSplit 4 = .ok (.iload_n 1, 1) := by decide +kernel
theorem d_Tr_makeSplit_5 : decode b_Tr_makeSplit 5 = .ok (.iload_n 2, 1) := by decide +kernel
theorem d_Tr_makeSplit_6 : decode b_Tr_makeSplit 6 = .ok (.iastore, 1) := by decide +kernel
theorem d_Tr_makeSplit_7 : decode b_Tr_makeSplit 7 = .ok (.aload_n 0, 1) := by decide +kernel
theorem d_Tr_makeSplit_8 : decode b_Tr_makeSplit 8 = .ok (.getfield 15, 3) := by decide +kernel
theorem d_Tr_makeSplit_11 : decode b_Tr_makeSplit 11 = .ok (.iload_n 1, 1) := by decide +kernel
theorem d_Tr_makeSplit_12 : decode b_Tr_makeSplit 12 = .ok (.iload_n 3, 1) := by decide +kernel
theorem d_Tr_makeSplit_13 : decode b_Tr_makeSplit 13 = .ok (.iastore, 1) := by decide +kernel
theorem d_Tr_makeSplit_14 : decode b_Tr_makeSplit 14 = .ok (.aload_n 0, 1) := by decide +kernel
theorem d_Tr_makeSplit_15 : decode b_Tr_makeSplit 15 = .ok (.getfield 18, 3) := by decide +kernel
theorem d_Tr_makeSplit_18 : decode b_Tr_makeSplit 18 = .ok (.iload_n 1, 1) := by decide +kernel
theorem d_Tr_makeSplit_19 : decode b_Tr_makeSplit 19 = .ok (.lconst 0, 1) := by decide +kernel
theorem d_Tr_makeSplit_20 : decode b_Tr_makeSplit 20 = .ok (.lastore, 1) := by decide +kernel
theorem d_Tr_makeSplit_21 : decode b_Tr_makeSplit 21 = .ok (.return_, 1) := by decide +kernel
theorem d_Gr_sendOn_0 : decode b_Gr_sendOn 0 = .ok (.iconst 0, 1) := by decide +kernel
theorem d_Gr_sendOn_1 : decode b_Gr_sendOn 1 = .ok (.istore_n 3, 1) := by decide +kernel
theorem d_Gr_sendOn_2 : decode b_Gr_sendOn 2 = .ok (.iload_n 3, 1) := by decide +kernel
theorem d_Gr_sendOn_3 : decode b_Gr_sendOn 3 = .ok (.aload_n 0, 1) := by decide +kernel
theorem d_Gr_sendOn_4 : decode b_Gr_sendOn 4 = .ok (.getfield 23, 3) := by decide +kernel
theorem d_Gr_sendOn_7 : decode b_Gr_sendOn 7 = .ok (.if_icmp .ge 36, 3) := by decide +kernel
theorem d_Gr_sendOn_10 : decode b_Gr_sendOn 10 = .ok (.aload_n 0, 1) := by decide +kernel
theorem d_Gr_sendOn_11 : decode b_Gr_sendOn 11 = .ok (.getfield 27, 3) := by decide +kernel
theorem d_Gr_sendOn_14 : decode b_Gr_sendOn 14 = .ok (.iload_n 3, 1) := by decide +kernel
theorem d_Gr_sendOn_15 : decode b_Gr_sendOn 15 = .ok (.iaload, 1) := by decide +kernel
theorem d_Gr_sendOn_16 : decode b_Gr_sendOn 16 = .ok (.iload_n 2, 1) := by decide +kernel
theorem d_Gr_sendOn_17 : decode b_Gr_sendOn 17 = .ok (.if_icmp .ne 20, 3) := by decide +kernel
theorem d_Gr_sendOn_20 : decode b_Gr_sendOn 20 = .ok (.aload_n 0, 1) := by decide +kernel
theorem d_Gr_sendOn_21 : decode b_Gr_sendOn 21 = .ok (.getfield 27, 3) := by decide +kernel
theorem d_Gr_sendOn_24 : decode b_Gr_sendOn 24 = .ok (.iload_n 3, 1) := by decide +kernel
theorem d_Gr_sendOn_25 : decode b_Gr_sendOn 25 = .ok (.aload_n 1, 1) := by decide +kernel
theorem d_Gr_sendOn_26 : decode b_Gr_sendOn 26 = .ok (.iload_n 2, 1) := by decide +kernel
theorem d_Gr_sendOn_27 : decode b_Gr_sendOn 27 = .ok (.aload_n 0, 1) := by decide +kernel
theorem d_Gr_sendOn_28 : decode b_Gr_sendOn 28 = .ok (.getfield 11, 3) := by decide +kernel
theorem d_Gr_sendOn_31 : decode b_Gr_sendOn 31 = .ok (.iload_n 3, 1) := by decide +kernel
theorem d_Gr_sendOn_32 : decode b_Gr_sendOn 32 = .ok (.aaload, 1) := by decide +kernel
theorem d_Gr_sendOn_33 : decode b_Gr_sendOn 33 = .ok (.invokevirtual 92, 3) := by decide +kernel
theorem d_Gr_sendOn_36 : decode b_Gr_sendOn 36 = .ok (.iastore, 1) := by decide +kernel
theorem d_Gr_sendOn_37 : decode b_Gr_sendOn 37 = .ok (.iinc 3 1, 3) := by decide +kernel
theorem d_Gr_sendOn_40 : decode b_Gr_sendOn 40 = .ok (.goto (-38), 3) := by decide +kernel
theorem d_Gr_sendOn_43 : decode b_Gr_sendOn 43 = .ok (.return_, 1) := by decide +kernel
theorem d_Tr_partFor_0 : decode b_Tr_partFor 0 = .ok (.aload_n 2, 1) := by decide +kernel
theorem d_Tr_partFor_1 : decode b_Tr_partFor 1 = .ok (.aload_n 0, 1) := by decide +kernel
theorem d_Tr_partFor_2 : decode b_Tr_partFor 2 = .ok (.getfield 9, 3) := by decide +kernel
theorem d_Tr_partFor_5 : decode b_Tr_partFor 5 = .ok (.iload_n 1, 1) := by decide +kernel
theorem d_Tr_partFor_6 : decode b_Tr_partFor 6 = .ok (.iaload, 1) := by decide +kernel
theorem d_Tr_partFor_7 : decode b_Tr_partFor 7 = .ok (.iaload, 1) := by decide +kernel
theorem d_Tr_partFor_8 : decode b_Tr_partFor 8 = .ok (.aload_n 0, 1) := by decide +kernel
theorem d_Tr_partFor_9 : decode b_Tr_partFor 9 = .ok (.getfield 15, 3) := by decide +kernel
theorem d_Tr_partFor_12 : decode b_Tr_partFor 12 = .ok (.iload_n 1, 1) := by decide +kernel
theorem d_Tr_partFor_13 : decode b_Tr_partFor 13 = .ok (.iaload, 1) := by decide +kernel
theorem d_Tr_partFor_14 : decode b_Tr_partFor 14 = .ok (.if_icmp .gt 11, 3) := by decide +kernel
theorem d_Tr_partFor_17 : decode b_Tr_partFor 17 = .ok (.iconst 2, 1) := by decide +kernel
theorem d_Tr_partFor_18 : decode b_Tr_partFor 18 = .ok (.iload_n 1, 1) := by decide +kernel
theorem d_Tr_partFor_19 : decode b_Tr_partFor 19 = .ok (.imul, 1) := by decide +kernel
theorem d_Tr_partFor_20 : decode b_Tr_partFor 20 = .ok (.iconst 1, 1) := by decide +kernel
theorem d_Tr_partFor_21 : decode b_Tr_partFor 21 = .ok (.iadd, 1) := by decide +kernel
theorem d_Tr_partFor_22 : decode b_Tr_partFor 22 = .ok (.goto 8, 3) := by decide +kernel
theorem d_Tr_partFor_25 : decode b_Tr_partFor 25 = .ok (.iconst 2, 1) := by decide +kernel
theorem d_Tr_partFor_26 : decode b_Tr_partFor 26 = .ok (.iload_n 1, 1) := by decide +kernel
theorem d_Tr_partFor_27 : decode b_Tr_partFor 27 = .ok (.imul, 1) := by decide +kernel
theorem d_Tr_partFor_28 : decode b_Tr_partFor 28 = .ok (.iconst 2, 1) := by decide +kernel
theorem d_Tr_partFor_29 : decode b_Tr_partFor 29 = .ok (.iadd, 1) := by decide +kernel
theorem d_Tr_partFor_30 : decode b_Tr_partFor 30 = .ok (.ireturn, 1) := by decide +kernel
theorem d_Tr_makeLeaf_0 : decode b_Tr_makeLeaf 0 = .ok (.aload_n 0, 1) := by decide +kernel
theorem d_Tr_makeLeaf_1 : decode b_Tr_makeLeaf 1 = .ok (.getfield 9, 3) := by decide +kernel
theorem d_Tr_makeLeaf_4 : decode b_Tr_makeLeaf 4 = .ok (.iload_n 1, 1) := by decide +kernel
theorem d_Tr_makeLeaf_5 : decode b_Tr_makeLeaf 5 = .ok (.iconst (-1), 1) := by decide +kernel
theorem d_Tr_makeLeaf_6 : decode b_Tr_makeLeaf 6 = .ok (.iastore, 1) := by decide +kernel
theorem d_Tr_makeLeaf_7 : decode b_Tr_makeLeaf 7 = .ok (.aload_n 0, 1) := by decide +kernel
theorem d_Tr_makeLeaf_8 : decode b_Tr_makeLeaf 8 = .ok (.getfield 15, 3) := by decide +kernel
theorem d_Tr_makeLeaf_11 : decode b_Tr_makeLeaf 11 = .ok (.iload_n 1, 1) := by decide +kernel
theorem d_Tr_makeLeaf_12 : decode b_Tr_makeLeaf 12 = .ok (.iconst (-1), 1) := by decide +kernel
theorem d_Tr_makeLeaf_13 : decode b_Tr_makeLeaf 13 = .ok (.iastore, 1) := by decide +kernel
theorem d_Tr_makeLeaf_14 : decode b_Tr_makeLeaf 14 = .ok (.aload_n 0, 1) := by decide +kernel
theorem d_Tr_makeLeaf_15 : decode b_Tr_makeLeaf 15 = .ok (.getfield 18, 3) := by decide +kernel
theorem d_Tr_makeLeaf_18 : decode b_Tr_makeLeaf 18 = .ok (.iload_n 1, 1) := by decide +kernel
theorem d_Tr_makeLeaf_19 : decode b_Tr_makeLeaf 19 = .ok (.lload_n 2, 1) := by decide +kernel
theorem d_Tr_makeLeaf_20 : decode b_Tr_makeLeaf 20 = .ok (.lastore, 1) := by decide +kernel
theorem d_Tr_makeLeaf_21 : decode b_Tr_makeLeaf 21 = .ok (.return_, 1) := by decide +kernel
theorem d_Tr_valueFor_0 : decode b_Tr_valueFor 0 = .ok (.iconst 0, 1) := by decide +kernel
theorem d_Tr_valueFor_1 : decode b_Tr_valueFor 1 = .ok (.istore_n 2, 1) := by decide +kernel
theorem d_Tr_valueFor_2 : decode b_Tr_valueFor 2 = .ok (.iconst 0, 1) := by decide +kernel
theorem d_Tr_valueFor_3 : decode b_Tr_valueFor 3 = .ok (.istore_n 3, 1) := by decide +kernel
theorem d_Tr_valueFor_4 : decode b_Tr_valueFor 4 = .ok (.iload_n 3, 1) := by decide +kernel
theorem d_Tr_valueFor_5 : decode b_Tr_valueFor 5 = .ok (.iconst 2, 1) := by decide +kernel
theorem d_Tr_valueFor_6 : decode b_Tr_valueFor 6 = .ok (.if_icmp .ge 24, 3) := by decide +kernel
theorem d_Tr_valueFor_9 : decode b_Tr_valueFor 9 = .ok (.aload_n 0, 1) := by decide +kernel
theorem d_Tr_valueFor_10 : decode b_Tr_valueFor 10 = .ok (.iload_n 2, 1) := by decide +kernel
theorem d_Tr_valueFor_11 : decode b_Tr_valueFor 11 = .ok (.invokevirtual 32, 3) := by decide +kernel
theorem d_Tr_valueFor_14 : decode b_Tr_valueFor 14 = .ok (.ifCond .eq 16, 3) := by decide +kernel
theorem d_Tr_valueFor_17 : decode b_Tr_valueFor 17 = .ok (.aload_n 0, 1) := by decide +kernel
theorem d_Tr_valueFor_18 : decode b_Tr_valueFor 18 = .ok (.iload_n 2, 1) := by decide +kernel
theorem d_Tr_valueFor_19 : decode b_Tr_valueFor 19 = .ok (.aload_n 1, 1) := by decide +kernel
theorem d_Tr_valueFor_20 : decode b_Tr_valueFor 20 = .ok (.invokevirtual 35, 3) := by decide +kernel
theorem d_Tr_valueFor_23 : decode b_Tr_valueFor 23 = .ok (.istore_n 2, 1) := by decide +kernel
theorem d_Tr_valueFor_24 : decode b_Tr_valueFor 24 = .ok (.iinc 3 1, 3) := by decide +kernel
theorem d_Tr_valueFor_27 : decode b_Tr_valueFor 27 = .ok (.goto (-23), 3) := by decide +kernel
theorem d_Tr_valueFor_30 : decode b_Tr_valueFor 30 = .ok (.aload_n 0, 1) := by decide +kernel
theorem d_Tr_valueFor_31 : decode b_Tr_valueFor 31 = .ok (.getfield 18, 3) := by decide +kernel
theorem d_Tr_valueFor_34 : decode b_Tr_valueFor 34 = .ok (.iload_n 2, 1) := by decide +kernel
theorem d_Tr_valueFor_35 : decode b_Tr_valueFor 35 = .ok (.laload, 1) := by decide +kernel
theorem d_Tr_valueFor_36 : decode b_Tr_valueFor 36 = .ok (.lreturn, 1) := by decide +kernel
theorem d_Tr_isSplit_0 : decode b_Tr_isSplit 0 = .ok (.aload_n 0, 1) := by decide +kernel
theorem d_Tr_isSplit_1 : decode b_Tr_isSplit 1 = .ok (.getfield 9, 3) := by decide +kernel
theorem d_Tr_isSplit_4 : decode b_Tr_isSplit 4 = .ok (.iload_n 1, 1) := by decide +kernel
theorem d_Tr_isSplit_5 : decode b_Tr_isSplit 5 = .ok (.iaload, 1) := by decide +kernel
theorem d_Tr_isSplit_6 : decode b_Tr_isSplit 6 = .ok (.ifCond .lt 7, 3) := by decide +kernel
theorem d_Tr_isSplit_9 : decode b_Tr_isSplit 9 = .ok (.iconst 1, 1) := by decide +kernel
theorem d_Tr_isSplit_10 : decode b_Tr_isSplit 10 = .ok (.goto 4, 3) := by decide +kernel
theorem d_Tr_isSplit_13 : decode b_Tr_isSplit 13 = .ok (.iconst 0, 1) := by decide +kernel
theorem d_Tr_isSplit_14 : decode b_Tr_isSplit 14 = .ok (.ireturn, 1) := by decide +kernel
theorem d_Fo_leaves_0 : decode b_Fo_leaves 0 = .ok (.iconst 0, 1) := by decide +kernel
theorem d_Fo_leaves_1 : decode b_Fo_leaves 1 = .ok (.istore_n 1, 1) := by decide +kernel
theorem d_Fo_leaves_2 : decode b_Fo_leaves 2 = .ok (.iconst 0, 1) := by decide +kernel
theorem d_Fo_leaves_3 : decode b_Fo_leaves 3 = .ok (.istore_n 2, 1) := by decide +kernel
theorem d_Fo_leaves_4 : decode b_Fo_leaves 4 = .ok (.iload_n 2, 1) := by decide +kernel
theorem d_Fo_leaves_5 : decode b_Fo_leaves 5 = .ok (.aload_n 0, 1) := by decide +kernel
theorem d_Fo_leaves_6 : decode b_Fo_leaves 6 = .ok (.getfield 17, 3) := by decide +kernel
theorem d_Fo_leaves_9 : decode b_Fo_leaves 9 = .ok (.if_icmp .ge 21, 3) := by decide +kernel
theorem d_Fo_leaves_12 : decode b_Fo_leaves 12 = .ok (.iload_n 1, 1) := by decide +kernel
theorem d_Fo_leaves_13 : decode b_Fo_leaves 13 = .ok (.aload_n 0, 1) := by decide +kernel
theorem d_Fo_leaves_14 : decode b_Fo_leaves 14 = .ok (.getfield 11, 3) := by decide +kernel
theorem d_Fo_leaves_17 : decode b_Fo_leaves 17 = .ok (.iload_n 2, 1) := by decide +kernel
theorem d_Fo_leaves_18 : decode b_Fo_leaves 18 = .ok (.aaload, 1) := by decide +kernel
theorem d_Fo_leaves_19 : decode b_Fo_leaves 19 = .ok (.invokevirtual 31, 3) := by decide +kernel
theorem d_Fo_leaves_22 : decode b_Fo_leaves 22 = .ok (.iadd, 1) := by decide +kernel
theorem d_Fo_leaves_23 : decode b_Fo_leaves 23 = .ok (.istore_n 1, 1) := by decide +kernel
theorem d_Fo_leaves_24 : decode b_Fo_leaves 24 = .ok (.iinc 2 1, 3) := by decide +kernel
theorem d_Fo_leaves_27 : decode b_Fo_leaves 27 = .ok (.goto (-23), 3) := by decide +kernel
theorem d_Fo_leaves_30 : decode b_Fo_leaves 30 = .ok (.iload_n 1, 1) := by decide +kernel
theorem d_Fo_leaves_31 : decode b_Fo_leaves 31 = .ok (.ireturn, 1) := by decide +kernel
theorem d_Tr_leaves_0 : decode b_Tr_leaves 0 = .ok (.iconst 0, 1) := by decide +kernel
theorem d_Tr_leaves_1 : decode b_Tr_leaves 1 = .ok (.istore_n 1, 1) := by decide +kernel
theorem d_Tr_leaves_2 : decode b_Tr_leaves 2 = .ok (.iconst 0, 1) := by decide +kernel
theorem d_Tr_leaves_3 : decode b_Tr_leaves 3 = .ok (.istore_n 2, 1) := by decide +kernel
theorem d_Tr_leaves_4 : decode b_Tr_leaves 4 = .ok (.iload_n 2, 1) := by decide +kernel
theorem d_Tr_leaves_5 : decode b_Tr_leaves 5 = .ok (.bipush 7, 2) := by decide +kernel
theorem d_Tr_leaves_7 : decode b_Tr_leaves 7 = .ok (.if_icmp .ge 20, 3) := by decide +kernel
theorem d_Tr_leaves_10 : decode b_Tr_leaves 10 = .ok (.aload_n 0, 1) := by decide +kernel
theorem d_Tr_leaves_11 : decode b_Tr_leaves 11 = .ok (.iload_n 2, 1) := by decide +kernel
theorem d_Tr_leaves_12 : decode b_Tr_leaves 12 = .ok (.invokevirtual 28, 3) := by decide +kernel
theorem d_Tr_leaves_15 : decode b_Tr_leaves 15 = .ok (.ifCond .eq 6, 3) := by decide +kernel
theorem d_Tr_leaves_18 : decode b_Tr_leaves 18 = .ok (.iinc 1 1, 3) := by decide +kernel
theorem d_Tr_leaves_21 : decode b_Tr_leaves 21 = .ok (.iinc 2 1, 3) := by decide +kernel
theorem d_Tr_leaves_24 : decode b_Tr_leaves 24 = .ok (.goto (-20), 3) := by decide +kernel
theorem d_Tr_leaves_27 : decode b_Tr_leaves 27 = .ok (.iload_n 1, 1) := by decide +kernel
theorem d_Tr_leaves_28 : decode b_Tr_leaves 28 = .ok (.ireturn, 1) := by decide +kernel
theorem d_Tr_isLeaf_0 : decode b_Tr_isLeaf 0 = .ok (.aload_n 0, 1) := by decide +kernel
theorem d_Tr_isLeaf_1 : decode b_Tr_isLeaf 1 = .ok (.getfield 9, 3) := by decide +kernel
theorem d_Tr_isLeaf_4 : decode b_Tr_isLeaf 4 = .ok (.iload_n 1, 1) := by decide +kernel
theorem d_Tr_isLeaf_5 : decode b_Tr_isLeaf 5 = .ok (.iaload, 1) := by decide +kernel
theorem d_Tr_isLeaf_6 : decode b_Tr_isLeaf 6 = .ok (.iconst (-1), 1) := by decide +kernel
theorem d_Tr_isLeaf_7 : decode b_Tr_isLeaf 7 = .ok (.if_icmp .ne 7, 3) := by decide +kernel
theorem d_Tr_isLeaf_10 : decode b_Tr_isLeaf 10 = .ok (.iconst 1, 1) := by decide +kernel
theorem d_Tr_isLeaf_11 : decode b_Tr_isLeaf 11 = .ok (.goto 4, 3) := by decide +kernel
theorem d_Tr_isLeaf_14 : decode b_Tr_isLeaf 14 = .ok (.iconst 0, 1) := by decide +kernel
theorem d_Tr_isLeaf_15 : decode b_Tr_isLeaf 15 = .ok (.ireturn, 1) := by decide +kernel
theorem d_X_feature_0 : decode b_X_feature 0 = .ok (.iload_n 1, 1) := by decide +kernel
theorem d_X_feature_1 : decode b_X_feature 1 = .ok (.invokestatic 78, 3) := by decide +kernel
theorem d_X_feature_4 : decode b_X_feature 4 = .ok (.ifCond .eq 22, 3) := by decide +kernel
theorem d_X_feature_7 : decode b_X_feature 7 = .ok (.aload_n 0, 1) := by decide +kernel
theorem d_X_feature_8 : decode b_X_feature 8 = .ok (.getfield 10, 3) := by decide +kernel
theorem d_X_feature_11 : decode b_X_feature 11 = .ok (.iload_n 2, 1) := by decide +kernel
theorem d_X_feature_12 : decode b_X_feature 12 = .ok (.invokevirtual 66, 3) := by decide +kernel
theorem d_X_feature_15 : decode b_X_feature 15 = .ok (.ifCond .eq 11, 3) := by decide +kernel
theorem d_X_feature_18 : decode b_X_feature 18 = .ok (.iload_n 3, 1) := by decide +kernel
theorem d_X_feature_19 : decode b_X_feature 19 = .ok (.iconst 4, 1) := by decide +kernel
theorem d_X_feature_20 : decode b_X_feature 20 = .ok (.invokestatic 58, 3) := by decide +kernel
theorem d_X_feature_23 : decode b_X_feature 23 = .ok (.ifCond .ne 5, 3) := by decide +kernel
theorem d_X_feature_26 : decode b_X_feature 26 = .ok (.iconst (-1), 1) := by decide +kernel
theorem d_X_feature_27 : decode b_X_feature 27 = .ok (.ireturn, 1) := by decide +kernel
theorem d_X_feature_28 : decode b_X_feature 28 = .ok (.aload_n 0, 1) := by decide +kernel
theorem d_X_feature_29 : decode b_X_feature 29 = .ok (.getfield 10, 3) := by decide +kernel
theorem d_X_feature_32 : decode b_X_feature 32 = .ok (.iload_n 2, 1) := by decide +kernel
theorem d_X_feature_33 : decode b_X_feature 33 = .ok (.aload_n 0, 1) := by decide +kernel
theorem d_X_feature_34 : decode b_X_feature 34 = .ok (.getfield 16, 3) := by decide +kernel
theorem d_X_feature_37 : decode b_X_feature 37 = .ok (.iload_n 1, 1) := by decide +kernel
theorem d_X_feature_38 : decode b_X_feature 38 = .ok (.iaload, 1) := by decide +kernel
theorem d_X_feature_39 : decode b_X_feature 39 = .ok (.aload_n 0, 1) := by decide +kernel
theorem d_X_feature_40 : decode b_X_feature 40 = .ok (.getfield 51, 3) := by decide +kernel
theorem d_X_feature_43 : decode b_X_feature 43 = .ok (.invokevirtual 113, 3) := by decide +kernel
theorem d_X_feature_46 : decode b_X_feature 46 = .ok (.aload_n 0, 1) := by decide +kernel
theorem d_X_feature_47 : decode b_X_feature 47 = .ok (.getfield 51, 3) := by decide +kernel
theorem d_X_feature_50 : decode b_X_feature 50 = .ok (.iload_n 3, 1) := by decide +kernel
theorem d_X_feature_51 : decode b_X_feature 51 = .ok (.iaload, 1) := by decide +kernel
theorem d_X_feature_52 : decode b_X_feature 52 = .ok (.ireturn, 1) := by decide +kernel
theorem d_X_ranked_0 : decode b_X_ranked 0 = .ok (.iload_n 1, 1) := by decide +kernel
theorem d_X_ranked_1 : decode b_X_ranked 1 = .ok (.invokestatic 78, 3) := by decide +kernel
theorem d_X_ranked_4 : decode b_X_ranked 4 = .ok (.ifCond .ne 5, 3) := by decide +kernel
theorem d_X_ranked_7 : decode b_X_ranked 7 = .ok (.iconst (-1), 1) := by decide +kernel
theorem d_X_ranked_8 : decode b_X_ranked 8 = .ok (.ireturn, 1) := by decide +kernel
theorem d_X_ranked_9 : decode b_X_ranked 9 = .ok (.iload_n 3, 1) := by decide +kernel
theorem d_X_ranked_10 : decode b_X_ranked 10 = .ok (.ifCond .eq 11, 3) := by decide +kernel
theorem d_X_ranked_13 : decode b_X_ranked 13 = .ok (.aload_n 0, 1) := by decide +kernel
theorem d_X_ranked_14 : decode b_X_ranked 14 = .ok (.iload_n 1, 1) := by decide +kernel
theorem d_X_ranked_15 : decode b_X_ranked 15 = .ok (.invokevirtual 117, 3) := by decide +kernel
theorem d_X_ranked_18 : decode b_X_ranked 18 = .ok (.goto 8, 3) := by decide +kernel
theorem d_X_ranked_21 : decode b_X_ranked 21 = .ok (.aload_n 0, 1) := by decide +kernel
theorem d_X_ranked_22 : decode b_X_ranked 22 = .ok (.iload_n 1, 1) := by decide +kernel
theorem d_X_ranked_23 : decode b_X_ranked 23 = .ok (.invokevirtual 121, 3) := by decide +kernel
theorem d_X_ranked_26 : decode b_X_ranked 26 = .ok (.astore 4, 2) := by decide +kernel
theorem d_X_ranked_28 : decode b_X_ranked 28 = .ok (.iload_n 2, 1) := by decide +kernel
theorem d_X_ranked_29 : decode b_X_ranked 29 = .ok (.aload 4, 2) := by decide +kernel
theorem d_X_ranked_31 : decode b_X_ranked 31 = .ok (.invokevirtual 124, 3) := by decide +kernel
theorem d_X_ranked_34 : decode b_X_ranked 34 = .ok (.iconst 1, 1) := by decide +kernel
theorem d_X_ranked_35 : decode b_X_ranked 35 = .ok (.isub, 1) := by decide +kernel
theorem d_X_ranked_36 : decode b_X_ranked 36 = .ok (.invokestatic 58, 3) := by decide +kernel
theorem d_X_ranked_39 : decode b_X_ranked 39 = .ok (.ifCond .eq 12, 3) := by decide +kernel
theorem d_X_ranked_42 : decode b_X_ranked 42 = .ok (.aload 4, 2) := by decide +kernel
theorem d_X_ranked_44 : decode b_X_ranked 44 = .ok (.iload_n 2, 1) := by decide +kernel
theorem d_X_ranked_45 : decode b_X_ranked 45 = .ok (.invokevirtual 127, 3) := by decide +kernel
theorem d_X_ranked_48 : decode b_X_ranked 48 = .ok (.goto 4, 3) := by decide +kernel
theorem d_X_ranked_51 : decode b_X_ranked 51 = .ok (.iconst (-1), 1) := by decide +kernel
theorem d_X_ranked_52 : decode b_X_ranked 52 = .ok (.ireturn, 1) := by decide +kernel
theorem d_X_rankAnew_0 : decode b_X_rankAnew 0 = .ok (.aload_n 0, 1) := by decide +kernel
theorem d_X_rankAnew_1 : decode b_X_rankAnew 1 = .ok (.iload_n 1, 1) := by decide +kernel
theorem d_X_rankAnew_2 : decode b_X_rankAnew 2 = .ok (.invokevirtual 121, 3) := by decide +kernel
theorem d_X_rankAnew_5 : decode b_X_rankAnew 5 = .ok (.pop, 1) := by decide +kernel
theorem d_X_rankAnew_6 : decode b_X_rankAnew 6 = .ok (.aload_n 0, 1) := by decide +kernel
theorem d_X_rankAnew_7 : decode b_X_rankAnew 7 = .ok (.getfield 48, 3) := by decide +kernel
theorem d_X_rankAnew_10 : decode b_X_rankAnew 10 = .ok (.invokevirtual 198, 3) := by decide +kernel
theorem d_X_rankAnew_13 : decode b_X_rankAnew 13 = .ok (.iconst 0, 1) := by decide +kernel
theorem d_X_rankAnew_14 : decode b_X_rankAnew 14 = .ok (.istore_n 2, 1) := by decide +kernel
theorem d_X_rankAnew_15 : decode b_X_rankAnew 15 = .ok (.iload_n 2, 1) := by decide +kernel
theorem d_X_rankAnew_16 : decode b_X_rankAnew 16 = .ok (.aload_n 0, 1) := by decide +kernel
theorem d_X_rankAnew_17 : decode b_X_rankAnew 17 = .ok (.getfield 44, 3) := by decide +kernel
theorem d_X_rankAnew_20 : decode b_X_rankAnew 20 = .ok (.invokevirtual 124, 3) := by decide +kernel
theorem d_X_rankAnew_23 : decode b_X_rankAnew 23 = .ok (.if_icmp .ge 32, 3) := by decide +kernel
theorem d_X_rankAnew_26 : decode b_X_rankAnew 26 = .ok (.aload_n 0, 1) := by decide +kernel
theorem d_X_rankAnew_27 : decode b_X_rankAnew 27 = .ok (.getfield 44, 3) := by decide +kernel
theorem d_X_rankAnew_30 : decode b_X_rankAnew 30 = .ok (.iload_n 2, 1) := by decide +kernel
theorem d_X_rankAnew_31 : decode b_X_rankAnew 31 = .ok (.invokevirtual 127, 3) := by decide +kernel
theorem d_X_rankAnew_34 : decode b_X_rankAnew 34 = .ok (.istore_n 3, 1) := by decide +kernel
theorem d_X_rankAnew_35 : decode b_X_rankAnew 35 = .ok (.aload_n 0, 1) := by decide +kernel
theorem d_X_rankAnew_36 : decode b_X_rankAnew 36 = .ok (.getfield 48, 3) := by decide +kernel
theorem d_X_rankAnew_39 : decode b_X_rankAnew 39 = .ok (.iload_n 3, 1) := by decide +kernel
theorem d_X_rankAnew_40 : decode b_X_rankAnew 40 = .ok (.aload_n 0, 1) := by decide +kernel
theorem d_X_rankAnew_41 : decode b_X_rankAnew 41 = .ok (.iload_n 1, 1) := by decide +kernel
theorem d_X_rankAnew_42 : decode b_X_rankAnew 42 = .ok (.iload_n 3, 1) := by decide +kernel
theorem d_X_rankAnew_43 : decode b_X_rankAnew 43 = .ok (.invokevirtual 133, 3) := by decide +kernel
theorem d_X_rankAnew_46 : decode b_X_rankAnew 46 = .ok (.invokevirtual 199, 3) := by decide +kernel
theorem d_X_rankAnew_49 : decode b_X_rankAnew 49 = .ok (.iinc 2 1, 3) := by decide +kernel
theorem d_X_rankAnew_52 : decode b_X_rankAnew 52 = .ok (.goto (-37), 3) := by decide +kernel
theorem d_X_rankAnew_55 : decode b_X_rankAnew 55 = .ok (.aload_n 0, 1) := by decide +kernel
theorem d_X_rankAnew_56 : decode b_X_rankAnew 56 = .ok (.getfield 48, 3) := by decide +kernel
theorem d_X_rankAnew_59 : decode b_X_rankAnew 59 = .ok (.areturn, 1) := by decide +kernel
theorem d_X_pickCandidates_0 : decode b_X_pickCandidates 0 = .ok (.aload_n 0, 1) := by decide +kernel
theorem d_X_pickCandidates_1 : decode b_X_pickCandidates 1 = .ok (.getfield 44, 3) := by decide +kernel
theorem d_X_pickCandidates_4 : decode b_X_pickCandidates 4 = .ok (.invokevirtual 198, 3) := by decide +kernel
theorem d_X_pickCandidates_7 : decode b_X_pickCandidates 7 = .ok (.iconst 0, 1) := by decide +kernel
theorem d_X_pickCandidates_8 : decode b_X_pickCandidates 8 = .ok (.istore_n 2, 1) := by decide +kernel
theorem d_X_pickCandidates_9 : decode b_X_pickCandidates 9 = .ok (.iload_n 2, 1) := by decide +kernel
theorem d_X_pickCandidates_10 : decode b_X_pickCandidates 10 = .ok (.bipush 16, 2) := by decide +kernel
theorem d_X_pickCandidates_12 : decode b_X_pickCandidates 12 = .ok (.if_icmp .ge 81, 3) := by decide +kernel
theorem d_X_pickCandidates_15 : decode b_X_pickCandidates 15 = .ok (.aload_n 0, 1) := by decide +kernel
theorem d_X_pickCandidates_16 : decode b_X_pickCandidates 16 = .ok (.getfield 10, 3) := by decide +kernel
theorem d_X_pickCandidates_19 : decode b_X_pickCandidates 19 = .ok (.iload_n 2, 1) := by decide +kernel
theorem d_X_pickCandidates_20 : decode b_X_pickCandidates 20 = .ok (.invokevirtual 66, 3) := by decide +kernel
theorem d_X_pickCandidates_23 : decode b_X_pickCandidates 23 = .ok (.ifCond .eq 64, 3) := by decide +kernel
theorem d_X_pickCandidates_26 : decode b_X_pickCandidates 26 = .ok (.aload_n 0, 1) := by decide +kernel
theorem d_X_pickCandidates_27 : decode b_X_pickCandidates 27 = .ok (.getfield 10, 3) := by decide +kernel
theorem d_X_pickCandidates_30 : decode b_X_pickCandidates 30 = .ok (.iload_n 2, 1) := by decide +kernel
theorem d_X_pickCandidates_31 : decode b_X_pickCandidates 31 = .ok (.aload_n 0, 1) := by decide +kernel
theorem d_X_pickCandidates_32 : decode b_X_pickCandidates 32 = .ok (.getfield 16, 3) := by decide +kernel
theorem d_X_pickCandidates_35 : decode b_X_pickCandidates 35 = .ok (.iload_n 1, 1) := by decide +kernel
theorem d_X_pickCandidates_36 : decode b_X_pickCandidates 36 = .ok (.iaload, 1) := by decide +kernel
theorem d_X_pickCandidates_37 : decode b_X_pickCandidates 37 = .ok (.aload_n 0, 1) := by decide +kernel
theorem d_X_pickCandidates_38 : decode b_X_pickCandidates 38 = .ok (.getfield 51, 3) := by decide +kernel
theorem d_X_pickCandidates_41 : decode b_X_pickCandidates 41 = .ok (.invokevirtual 113, 3) := by decide +kernel
theorem d_X_pickCandidates_44 : decode b_X_pickCandidates 44 = .ok (.aload_n 0, 1) := by decide +kernel
theorem d_X_pickCandidates_45 : decode b_X_pickCandidates 45 = .ok (.getfield 51, 3) := by decide +kernel
theorem d_X_pickCandidates_48 : decode b_X_pickCandidates 48 = .ok (.iconst 0, 1) := by decide +kernel
theorem d_X_pickCandidates_49 : decode b_X_pickCandidates 49 = .ok (.iaload, 1) := by decide +kernel
theorem d_X_pickCandidates_50 : decode b_X_pickCandidates 50 = .ok (.ifCond .le 37, 3) := by decide +kernel
theorem d_X_pickCandidates_53 : decode b_X_pickCandidates 53 = .ok (.aload_n 0, 1) := by decide +kernel
theorem d_X_pickCandidates_54 : decode b_X_pickCandidates 54 = .ok (.getfield 44, 3) := by decide +kernel
theorem d_X_pickCandidates_57 : decode b_X_pickCandidates 57 = .ok (.iload_n 2, 1) := by decide +kernel
theorem d_X_pickCandidates_58 : decode b_X_pickCandidates 58 = .ok (.bipush 16, 2) := by decide +kernel
theorem d_X_pickCandidates_60 : decode b_X_pickCandidates 60 = .ok (.aload_n 0, 1) := by decide +kernel
theorem d_X_pickCandidates_61 : decode b_X_pickCandidates 61 = .ok (.getfield 51, 3) := by decide +kernel
theorem d_X_pickCandidates_64 : decode b_X_pickCandidates 64 = .ok (.iconst 1, 1) := by decide +kernel
theorem d_X_pickCandidates_65 : decode b_X_pickCandidates 65 = .ok (.iaload, 1) := by decide +kernel
theorem d_X_pickCandidates_66 : decode b_X_pickCandidates 66 = .ok (.imul, 1) := by decide +kernel
theorem d_X_pickCandidates_67 : decode b_X_pickCandidates 67 = .ok (.iconst 4, 1) := by decide +kernel
theorem d_X_pickCandidates_68 : decode b_X_pickCandidates 68 = .ok (.aload_n 0, 1) := by decide +kernel
theorem d_X_pickCandidates_69 : decode b_X_pickCandidates 69 = .ok (.getfield 51, 3) := by decide +kernel
theorem d_X_pickCandidates_72 : decode b_X_pickCandidates 72 = .ok (.iconst 0, 1) := by decide +kernel
theorem d_X_pickCandidates_73 : decode b_X_pickCandidates 73 = .ok (.iaload, 1) := by decide +kernel
theorem d_X_pickCandidates_74 : decode b_X_pickCandidates 74 = .ok (.imul, 1) := by decide +kernel
theorem d_X_pickCandidates_75 : decode b_X_pickCandidates 75 = .ok (.iadd, 1) := by decide +kernel
theorem d_X_pickCandidates_76 : decode b_X_pickCandidates 76 = .ok (.aload_n 0, 1) := by decide +kernel
theorem d_X_pickCandidates_77 : decode b_X_pickCandidates 77 = .ok (.getfield 51, 3) := by decide +kernel
theorem d_X_pickCandidates_80 : decode b_X_pickCandidates 80 = .ok (.iconst 2, 1) := by decide +kernel
theorem d_X_pickCandidates_81 : decode b_X_pickCandidates 81 = .ok (.iaload, 1) := by decide +kernel
theorem d_X_pickCandidates_82 : decode b_X_pickCandidates 82 = .ok (.isub, 1) := by decide +kernel
theorem d_X_pickCandidates_83 : decode b_X_pickCandidates 83 = .ok (.i2l, 1) := by decide +kernel
theorem d_X_pickCandidates_84 : decode b_X_pickCandidates 84 = .ok (.invokevirtual 199, 3) := by decide +kernel
theorem d_X_pickCandidates_87 : decode b_X_pickCandidates 87 = .ok (.iinc 2 1, 3) := by decide +kernel
theorem d_X_pickCandidates_90 : decode b_X_pickCandidates 90 = .ok (.goto (-81), 3) := by decide +kernel
theorem d_X_pickCandidates_93 : decode b_X_pickCandidates 93 = .ok (.aload_n 0, 1) := by decide +kernel
theorem d_X_pickCandidates_94 : decode b_X_pickCandidates 94 = .ok (.getfield 44, 3) := by decide +kernel
theorem d_X_pickCandidates_97 : decode b_X_pickCandidates 97 = .ok (.aload_n 0, 1) := by decide +kernel
theorem d_X_pickCandidates_98 : decode b_X_pickCandidates 98 = .ok (.getfield 54, 3) := by decide +kernel
theorem d_X_pickCandidates_101 : decode b_X_pickCandidates 101 = .ok (.invokevirtual 203, 3) := by decide +kernel
theorem d_X_pickCandidates_104 : decode b_X_pickCandidates 104 = .ok (.aload_n 0, 1) := by decide +kernel
theorem d_X_pickCandidates_105 : decode b_X_pickCandidates 105 = .ok (.getfield 44, 3) := by decide +kernel
theorem d_X_pickCandidates_108 : decode b_X_pickCandidates 108 = .ok (.areturn, 1) := by decide +kernel
theorem d_Ra_clear_0 : decode b_Ra_clear 0 = .ok (.aload_n 0, 1) := by decide +kernel
theorem d_Ra_clear_1 : decode b_Ra_clear 1 = .ok (.iconst 0, 1) := by decide +kernel
theorem d_Ra_clear_2 : decode b_Ra_clear 2 = .ok (.putfield 19, 3) := by decide +kernel
theorem d_Ra_clear_5 : decode b_Ra_clear 5 = .ok (.return_, 1) := by decide +kernel
theorem d_Ra_insert_0 : decode b_Ra_insert 0 = .ok (.aload_n 0, 1) := by decide +kernel
theorem d_Ra_insert_1 : decode b_Ra_insert 1 = .ok (.getfield 19, 3) := by decide +kernel
theorem d_Ra_insert_4 : decode b_Ra_insert 4 = .ok (.bipush 16, 2) := by decide +kernel
theorem d_Ra_insert_6 : decode b_Ra_insert 6 = .ok (.if_icmp .lt 4, 3) := by decide +kernel
theorem d_Ra_insert_9 : decode b_Ra_insert 9 = .ok (.return_, 1) := by decide +kernel
theorem d_Ra_insert_10 : decode b_Ra_insert 10 = .ok (.aload_n 0, 1) := by decide +kernel
theorem d_Ra_insert_11 : decode b_Ra_insert 11 = .ok (.getfield 19, 3) := by decide +kernel
theorem d_Ra_insert_14 : decode b_Ra_insert 14 = .ok (.istore 4, 2) := by decide +kernel
theorem d_Ra_insert_16 : decode b_Ra_insert 16 = .ok (.iload 4, 2) := by decide +kernel
theorem d_Ra_insert_18 : decode b_Ra_insert 18 = .ok (.ifCond .le 55, 3) := by decide +kernel
theorem d_Ra_insert_21 : decode b_Ra_insert 21 = .ok (.aload_n 0, 1) := by decide +kernel
theorem d_Ra_insert_22 : decode b_Ra_insert 22 = .ok (.getfield 15, 3) := by decide +kernel
theorem d_Ra_insert_25 : decode b_Ra_insert 25 = .ok (.iload 4, 2) := by decide +kernel
theorem d_Ra_insert_27 : decode b_Ra_insert 27 = .ok (.iconst 1, 1) := by decide +kernel
theorem d_Ra_insert_28 : decode b_Ra_insert 28 = .ok (.isub, 1) := by decide +kernel
theorem d_Ra_insert_29 : decode b_Ra_insert 29 = .ok (.laload, 1) := by decide +kernel
theorem d_Ra_insert_30 : decode b_Ra_insert 30 = .ok (.lload_n 2, 1) := by decide +kernel
theorem d_Ra_insert_31 : decode b_Ra_insert 31 = .ok (.lcmp, 1) := by decide +kernel
theorem d_Ra_insert_32 : decode b_Ra_insert 32 = .ok (.ifCond .ge 41, 3) := by decide +kernel
theorem d_Ra_insert_35 : decode b_Ra_insert 35 = .ok (.aload_n 0, 1) := by decide +kernel
theorem d_Ra_insert_36 : decode b_Ra_insert 36 = .ok (.getfield 15, 3) := by decide +kernel
theorem d_Ra_insert_39 : decode b_Ra_insert 39 = .ok (.iload 4, 2) := by decide +kernel
theorem d_Ra_insert_41 : decode b_Ra_insert 41 = .ok (.aload_n 0, 1) := by decide +kernel
theorem d_Ra_insert_42 : decode b_Ra_insert 42 = .ok (.getfield 15, 3) := by decide +kernel
theorem d_Ra_insert_45 : decode b_Ra_insert 45 = .ok (.iload 4, 2) := by decide +kernel
theorem d_Ra_insert_47 : decode b_Ra_insert 47 = .ok (.iconst 1, 1) := by decide +kernel
theorem d_Ra_insert_48 : decode b_Ra_insert 48 = .ok (.isub, 1) := by decide +kernel
theorem d_Ra_insert_49 : decode b_Ra_insert 49 = .ok (.laload, 1) := by decide +kernel
theorem d_Ra_insert_50 : decode b_Ra_insert 50 = .ok (.lastore, 1) := by decide +kernel
theorem d_Ra_insert_51 : decode b_Ra_insert 51 = .ok (.aload_n 0, 1) := by decide +kernel
theorem d_Ra_insert_52 : decode b_Ra_insert 52 = .ok (.getfield 9, 3) := by decide +kernel
theorem d_Ra_insert_55 : decode b_Ra_insert 55 = .ok (.iload 4, 2) := by decide +kernel
theorem d_Ra_insert_57 : decode b_Ra_insert 57 = .ok (.aload_n 0, 1) := by decide +kernel
theorem d_Ra_insert_58 : decode b_Ra_insert 58 = .ok (.getfield 9, 3) := by decide +kernel
theorem d_Ra_insert_61 : decode b_Ra_insert 61 = .ok (.iload 4, 2) := by decide +kernel
theorem d_Ra_insert_63 : decode b_Ra_insert 63 = .ok (.iconst 1, 1) := by decide +kernel
theorem d_Ra_insert_64 : decode b_Ra_insert 64 = .ok (.isub, 1) := by decide +kernel
theorem d_Ra_insert_65 : decode b_Ra_insert 65 = .ok (.iaload, 1) := by decide +kernel
theorem d_Ra_insert_66 : decode b_Ra_insert 66 = .ok (.iastore, 1) := by decide +kernel
theorem d_Ra_insert_67 : decode b_Ra_insert 67 = .ok (.iinc 4 (-1), 3) := by decide +kernel
theorem d_Ra_insert_70 : decode b_Ra_insert 70 = .ok (.goto (-54), 3) := by decide +kernel
theorem d_Ra_insert_73 : decode b_Ra_insert 73 = .ok (.aload_n 0, 1) := by decide +kernel
theorem d_Ra_insert_74 : decode b_Ra_insert 74 = .ok (.getfield 15, 3) := by decide +kernel
theorem d_Ra_insert_77 : decode b_Ra_insert 77 = .ok (.iload 4, 2) := by decide +kernel
theorem d_Ra_insert_79 : decode b_Ra_insert 79 = .ok (.lload_n 2, 1) := by decide +kernel
theorem d_Ra_insert_80 : decode b_Ra_insert 80 = .ok (.lastore, 1) := by decide +kernel
theorem d_Ra_insert_81 : decode b_Ra_insert 81 = .ok (.aload_n 0, 1) := by decide +kernel
theorem d_Ra_insert_82 : decode b_Ra_insert 82 = .ok (.getfield 9, 3) := by decide +kernel
theorem d_Ra_insert_85 : decode b_Ra_insert 85 = .ok (.iload 4, 2) := by decide +kernel
theorem d_Ra_insert_87 : decode b_Ra_insert 87 = .ok (.iload_n 1, 1) := by decide +kernel
theorem d_Ra_insert_88 : decode b_Ra_insert 88 = .ok (.iastore, 1) := by decide +kernel
theorem d_Ra_insert_89 : decode b_Ra_insert 89 = .ok (.aload_n 0, 1) := by decide +kernel
theorem d_Ra_insert_90 : decode b_Ra_insert 90 = .ok (.dup, 1) := by decide +kernel
theorem d_Ra_insert_91 : decode b_Ra_insert 91 = .ok (.getfield 19, 3) := by decide +kernel
theorem d_Ra_insert_94 : decode b_Ra_insert 94 = .ok (.iconst 1, 1) := by decide +kernel
theorem d_Ra_insert_95 : decode b_Ra_insert 95 = .ok (.iadd, 1) := by decide +kernel
theorem d_Ra_insert_96 : decode b_Ra_insert 96 = .ok (.putfield 19, 3) := by decide +kernel
theorem d_Ra_insert_99 : decode b_Ra_insert 99 = .ok (.return_, 1) := by decide +kernel
theorem d_Ra_cutAfter_0 : decode b_Ra_cutAfter 0 = .ok (.aload_n 0, 1) := by decide +kernel
theorem d_Ra_cutAfter_1 : decode b_Ra_cutAfter 1 = .ok (.aload_n 0, 1) := by decide +kernel
theorem d_Ra_cutAfter_2 : decode b_Ra_cutAfter 2 = .ok (.getfield 19, 3) := by decide +kernel
theorem d_Ra_cutAfter_5 : decode b_Ra_cutAfter 5 = .ok (.iload_n 1, 1) := by decide +kernel
theorem d_Ra_cutAfter_6 : decode b_Ra_cutAfter 6 = .ok (.invokestatic 23, 3) := by decide +kernel
theorem d_Ra_cutAfter_9 : decode b_Ra_cutAfter 9 = .ok (.putfield 19, 3) := by decide +kernel
theorem d_Ra_cutAfter_12 : decode b_Ra_cutAfter 12 = .ok (.return_, 1) := by decide +kernel
theorem d_Ra_length_0 : decode b_Ra_length 0 = .ok (.aload_n 0, 1) := by decide +kernel
theorem d_Ra_length_1 : decode b_Ra_length 1 = .ok (.getfield 19, 3) := by decide +kernel
theorem d_Ra_length_4 : decode b_Ra_length 4 = .ok (.ireturn, 1) := by decide +kernel
theorem d_Ra_documentAt_0 : decode b_Ra_documentAt 0 = .ok (.aload_n 0, 1) := by decide +kernel
theorem d_Ra_documentAt_1 : decode b_Ra_documentAt 1 = .ok (.getfield 9, 3) := by decide +kernel
theorem d_Ra_documentAt_4 : decode b_Ra_documentAt 4 = .ok (.iload_n 1, 1) := by decide +kernel
theorem d_Ra_documentAt_5 : decode b_Ra_documentAt 5 = .ok (.iaload, 1) := by decide +kernel
theorem d_Ra_documentAt_6 : decode b_Ra_documentAt 6 = .ok (.ireturn, 1) := by decide +kernel
theorem d_X_scoreNow_0 : decode b_X_scoreNow 0 = .ok (.aload_n 0, 1) := by decide +kernel
theorem d_X_scoreNow_1 : decode b_X_scoreNow 1 = .ok (.getfield 10, 3) := by decide +kernel
theorem d_X_scoreNow_4 : decode b_X_scoreNow 4 = .ok (.iload_n 2, 1) := by decide +kernel
theorem d_X_scoreNow_5 : decode b_X_scoreNow 5 = .ok (.aload_n 0, 1) := by decide +kernel
theorem d_X_scoreNow_6 : decode b_X_scoreNow 6 = .ok (.getfield 16, 3) := by decide +kernel
theorem d_X_scoreNow_9 : decode b_X_scoreNow 9 = .ok (.iload_n 1, 1) := by decide +kernel
theorem d_X_scoreNow_10 : decode b_X_scoreNow 10 = .ok (.iaload, 1) := by decide +kernel
theorem d_X_scoreNow_11 : decode b_X_scoreNow 11 = .ok (.aload_n 0, 1) := by decide +kernel
theorem d_X_scoreNow_12 : decode b_X_scoreNow 12 = .ok (.getfield 51, 3) := by decide +kernel
theorem d_X_scoreNow_15 : decode b_X_scoreNow 15 = .ok (.invokevirtual 113, 3) := by decide +kernel
theorem d_X_scoreNow_18 : decode b_X_scoreNow 18 = .ok (.aload_n 0, 1) := by decide +kernel
theorem d_X_scoreNow_19 : decode b_X_scoreNow 19 = .ok (.getfield 30, 3) := by decide +kernel
theorem d_X_scoreNow_22 : decode b_X_scoreNow 22 = .ok (.aload_n 0, 1) := by decide +kernel
theorem d_X_scoreNow_23 : decode b_X_scoreNow 23 = .ok (.getfield 51, 3) := by decide +kernel
theorem d_X_scoreNow_26 : decode b_X_scoreNow 26 = .ok (.invokevirtual 194, 3) := by decide +kernel
theorem d_X_scoreNow_29 : decode b_X_scoreNow 29 = .ok (.lreturn, 1) := by decide +kernel
theorem d_Fo_valueFor_0 : decode b_Fo_valueFor 0 = .ok (.lconst 0, 1) := by decide +kernel
theorem d_Fo_valueFor_1 : decode b_Fo_valueFor 1 = .ok (.lstore_n 2, 1) := by decide +kernel
theorem d_Fo_valueFor_2 : decode b_Fo_valueFor 2 = .ok (.iconst 0, 1) := by decide +kernel
theorem d_Fo_valueFor_3 : decode b_Fo_valueFor 3 = .ok (.istore 4, 2) := by decide +kernel
theorem d_Fo_valueFor_5 : decode b_Fo_valueFor 5 = .ok (.iload 4, 2) := by decide +kernel
theorem d_Fo_valueFor_7 : decode b_Fo_valueFor 7 = .ok (.aload_n 0, 1) := by decide +kernel
theorem d_Fo_valueFor_8 : decode b_Fo_valueFor 8 = .ok (.getfield 17, 3) := by decide +kernel
theorem d_Fo_valueFor_11 : decode b_Fo_valueFor 11 = .ok (.if_icmp .ge 23, 3) := by decide +kernel
theorem d_Fo_valueFor_14 : decode b_Fo_valueFor 14 = .ok (.lload_n 2, 1) := by decide +kernel
theorem d_Fo_valueFor_15 : decode b_Fo_valueFor 15 = .ok (.aload_n 0, 1) := by decide +kernel
theorem d_Fo_valueFor_16 : decode b_Fo_valueFor 16 = .ok (.getfield 11, 3) := by decide +kernel
theorem d_Fo_valueFor_19 : decode b_Fo_valueFor 19 = .ok (.iload 4, 2) := by decide +kernel
theorem d_Fo_valueFor_21 : decode b_Fo_valueFor 21 = .ok (.aaload, 1) := by decide +kernel
theorem d_Fo_valueFor_22 : decode b_Fo_valueFor 22 = .ok (.aload_n 1, 1) := by decide +kernel
theorem d_Fo_valueFor_23 : decode b_Fo_valueFor 23 = .ok (.invokevirtual 38, 3) := by decide +kernel
theorem d_Fo_valueFor_26 : decode b_Fo_valueFor 26 = .ok (.ladd, 1) := by decide +kernel
theorem d_Fo_valueFor_27 : decode b_Fo_valueFor 27 = .ok (.lstore_n 2, 1) := by decide +kernel
theorem d_Fo_valueFor_28 : decode b_Fo_valueFor 28 = .ok (.iinc 4 1, 3) := by decide +kernel
theorem d_Fo_valueFor_31 : decode b_Fo_valueFor 31 = .ok (.goto (-26), 3) := by decide +kernel
theorem d_Fo_valueFor_34 : decode b_Fo_valueFor 34 = .ok (.lload_n 2, 1) := by decide +kernel
theorem d_Fo_valueFor_35 : decode b_Fo_valueFor 35 = .ok (.lreturn, 1) := by decide +kernel
theorem d_X_score_0 : decode b_X_score 0 = .ok (.iload_n 1, 1) := by decide +kernel
theorem d_X_score_1 : decode b_X_score 1 = .ok (.invokestatic 78, 3) := by decide +kernel
theorem d_X_score_4 : decode b_X_score 4 = .ok (.ifCond .eq 14, 3) := by decide +kernel
theorem d_X_score_7 : decode b_X_score 7 = .ok (.aload_n 0, 1) := by decide +kernel
theorem d_X_score_8 : decode b_X_score 8 = .ok (.getfield 10, 3) := by decide +kernel
theorem d_X_score_11 : decode b_X_score 11 = .ok (.iload_n 2, 1) := by decide +kernel
theorem d_X_score_12 : decode b_X_score 12 = .ok (.invokevirtual 66, 3) := by decide +kernel
theorem d_X_score_15 : decode b_X_score 15 = .ok (.ifCond .ne 7, 3) := by decide +kernel
theorem d_X_score_18 : decode b_X_score 18 = .ok (.ldc2_w 131, 3) := by decide +kernel
theorem d_X_score_21 : decode b_X_score 21 = .ok (.lreturn, 1) := by decide +kernel
theorem d_X_score_22 : decode b_X_score 22 = .ok (.aload_n 0, 1) := by decide +kernel
theorem d_X_score_23 : decode b_X_score 23 = .ok (.iload_n 1, 1) := by decide +kernel
theorem d_X_score_24 : decode b_X_score 24 = .ok (.iload_n 2, 1) := by decide +kernel
theorem d_X_score_25 : decode b_X_score 25 = .ok (.invokevirtual 133, 3) := by decide +kernel
theorem d_X_score_28 : decode b_X_score 28 = .ok (.lreturn, 1) := by decide +kernel
theorem d_X_merit_0 : decode b_X_merit 0 = .ok (.iload_n 1, 1) := by decide +kernel
theorem d_X_merit_1 : decode b_X_merit 1 = .ok (.invokestatic 78, 3) := by decide +kernel
theorem d_X_merit_4 : decode b_X_merit 4 = .ok (.ifCond .ne 7, 3) := by decide +kernel
theorem d_X_merit_7 : decode b_X_merit 7 = .ok (.ldc2_w 131, 3) := by decide +kernel
theorem d_X_merit_10 : decode b_X_merit 10 = .ok (.lreturn, 1) := by decide +kernel
theorem d_X_merit_11 : decode b_X_merit 11 = .ok (.iload_n 2, 1) := by decide +kernel
theorem d_X_merit_12 : decode b_X_merit 12 = .ok (.ifCond .eq 11, 3) := by decide +kernel
theorem d_X_merit_15 : decode b_X_merit 15 = .ok (.aload_n 0, 1) := by decide +kernel
theorem d_X_merit_16 : decode b_X_merit 16 = .ok (.iload_n 1, 1) := by decide +kernel
theorem d_X_merit_17 : decode b_X_merit 17 = .ok (.invokevirtual 117, 3) := by decide +kernel
theorem d_X_merit_20 : decode b_X_merit 20 = .ok (.goto 8, 3) := by decide +kernel
theorem d_X_merit_23 : decode b_X_merit 23 = .ok (.aload_n 0, 1) := by decide +kernel
theorem d_X_merit_24 : decode b_X_merit 24 = .ok (.iload_n 1, 1) := by decide +kernel
theorem d_X_merit_25 : decode b_X_merit 25 = .ok (.invokevirtual 121, 3) := by decide +kernel
theorem d_X_merit_28 : decode b_X_merit 28 = .ok (.astore_n 3, 1) := by decide +kernel
theorem d_X_merit_29 : decode b_X_merit 29 = .ok (.lconst 0, 1) := by decide +kernel
theorem d_X_merit_30 : decode b_X_merit 30 = .ok (.lstore 4, 2) := by decide +kernel
theorem d_X_merit_32 : decode b_X_merit 32 = .ok (.iconst 0, 1) := by decide +kernel
theorem d_X_merit_33 : decode b_X_merit 33 = .ok (.istore 6, 2) := by decide +kernel
theorem d_X_merit_35 : decode b_X_merit 35 = .ok (.iload 6, 2) := by decide +kernel
theorem d_X_merit_37 : decode b_X_merit 37 = .ok (.aload_n 3, 1) := by decide +kernel
theorem d_X_merit_38 : decode b_X_merit 38 = .ok (.invokevirtual 124, 3) := by decide +kernel
theorem d_X_merit_41 : decode b_X_merit 41 = .ok (.if_icmp .ge 49, 3) := by decide +kernel
theorem d_X_merit_44 : decode b_X_merit 44 = .ok (.aload_n 0, 1) := by decide +kernel
theorem d_X_merit_45 : decode b_X_merit 45 = .ok (.getfield 23, 3) := by decide +kernel
theorem d_X_merit_48 : decode b_X_merit 48 = .ok (.iload_n 1, 1) := by decide +kernel
theorem d_X_merit_49 : decode b_X_merit 49 = .ok (.aload_n 3, 1) := by decide +kernel
theorem d_X_merit_50 : decode b_X_merit 50 = .ok (.iload 6, 2) := by decide +kernel
theorem d_X_merit_52 : decode b_X_merit 52 = .ok (.invokevirtual 127, 3) := by decide +kernel
theorem d_X_merit_55 : decode b_X_merit 55 = .ok (.invokevirtual 81, 3) := by decide +kernel
theorem d_X_merit_58 : decode b_X_merit 58 = .ok (.istore 7, 2) := by decide +kernel
theorem d_X_merit_60 : decode b_X_merit 60 = .ok (.iload 7, 2) := by decide +kernel
theorem d_X_merit_62 : decode b_X_merit 62 = .ok (.iconst (-1), 1) := by decide +kernel
theorem d_X_merit_63 : decode b_X_merit 63 = .ok (.if_icmp .eq 21, 3) := by decide +kernel
theorem d_X_merit_66 : decode b_X_merit 66 = .ok (.lload 4, 2) := by decide +kernel
theorem d_X_merit_68 : decode b_X_merit 68 = .ok (.lconst 1, 1) := by decide +kernel
theorem d_X_merit_69 : decode b_X_merit 69 = .ok (.iload 7, 2) := by decide +kernel
theorem d_X_merit_71 : decode b_X_merit 71 = .ok (.lshl, 1) := by decide +kernel
theorem d_X_merit_72 : decode b_X_merit 72 = .ok (.lconst 1, 1) := by decide +kernel
theorem d_X_merit_73 : decode b_X_merit 73 = .ok (.lsub, 1) := by decide +kernel
theorem d_X_merit_74 : decode b_X_merit 74 = .ok (.ldc 137, 2) := by decide +kernel
theorem d_X_merit_76 : decode b_X_merit 76 = .ok (.iload 6, 2) := by decide +kernel
theorem d_X_merit_78 : decode b_X_merit 78 = .ok (.ishr, 1) := by decide +kernel
theorem d_X_merit_79 : decode b_X_merit 79 = .ok (.i2l, 1) := by decide +kernel
theorem d_X_merit_80 : decode b_X_merit 80 = .ok (.lmul, 1) := by decide +kernel
theorem d_X_merit_81 : decode b_X_merit 81 = .ok (.ladd, 1) := by decide +kernel
theorem d_X_merit_82 : decode b_X_merit 82 = .ok (.lstore 4, 2) := by decide +kernel
theorem d_X_merit_84 : decode b_X_merit 84 = .ok (.iinc 6 1, 3) := by decide +kernel
theorem d_X_merit_87 : decode b_X_merit 87 = .ok (.goto (-52), 3) := by decide +kernel
theorem d_X_merit_90 : decode b_X_merit 90 = .ok (.lload 4, 2) := by decide +kernel
theorem d_X_merit_92 : decode b_X_merit 92 = .ok (.lreturn, 1) := by decide +kernel
theorem d_X_rest_0 : decode b_X_rest 0 = .ok (.aload_n 0, 1) := by decide +kernel
theorem d_X_rest_1 : decode b_X_rest 1 = .ok (.getfield 23, 3) := by decide +kernel
theorem d_X_rest_4 : decode b_X_rest 4 = .ok (.iload_n 1, 1) := by decide +kernel
theorem d_X_rest_5 : decode b_X_rest 5 = .ok (.invokevirtual 138, 3) := by decide +kernel
theorem d_X_rest_8 : decode b_X_rest 8 = .ok (.istore_n 2, 1) := by decide +kernel
theorem d_X_rest_9 : decode b_X_rest 9 = .ok (.iload_n 2, 1) := by decide +kernel
theorem d_X_rest_10 : decode b_X_rest 10 = .ok (.ifCond .ge 7, 3) := by decide +kernel
theorem d_X_rest_13 : decode b_X_rest 13 = .ok (.ldc2_w 131, 3) := by decide +kernel
theorem d_X_rest_16 : decode b_X_rest 16 = .ok (.lreturn, 1) := by decide +kernel
theorem d_X_rest_17 : decode b_X_rest 17 = .ok (.iload_n 2, 1) := by decide +kernel
theorem d_X_rest_18 : decode b_X_rest 18 = .ok (.bipush 16, 2) := by decide +kernel
theorem d_X_rest_20 : decode b_X_rest 20 = .ok (.idiv, 1) := by decide +kernel
theorem d_X_rest_21 : decode b_X_rest 21 = .ok (.istore_n 3, 1) := by decide +kernel
theorem d_X_rest_22 : decode b_X_rest 22 = .ok (.iload_n 2, 1) := by decide +kernel
theorem d_X_rest_23 : decode b_X_rest 23 = .ok (.bipush 16, 2) := by decide +kernel
theorem d_X_rest_25 : decode b_X_rest 25 = .ok (.irem, 1) := by decide +kernel
theorem d_X_rest_26 : decode b_X_rest 26 = .ok (.istore 4, 2) := by decide +kernel
theorem d_X_rest_28 : decode b_X_rest 28 = .ok (.aload_n 0, 1) := by decide +kernel
theorem d_X_rest_29 : decode b_X_rest 29 = .ok (.getfield 10, 3) := by decide +kernel
theorem d_X_rest_32 : decode b_X_rest 32 = .ok (.iload 4, 2) := by decide +kernel
theorem d_X_rest_34 : decode b_X_rest 34 = .ok (.invokevirtual 66, 3) := by decide +kernel
theorem d_X_rest_37 : decode b_X_rest 37 = .ok (.ifCond .ne 7, 3) := by decide +kernel
theorem d_X_rest_40 : decode b_X_rest 40 = .ok (.ldc2_w 131, 3) := by decide +kernel
theorem d_X_rest_43 : decode b_X_rest 43 = .ok (.lreturn, 1) := by decide +kernel
theorem d_X_rest_44 : decode b_X_rest 44 = .ok (.ldc2_w 141, 3) := by decide +kernel
theorem d_X_rest_47 : decode b_X_rest 47 = .ok (.aload_n 0, 1) := by decide +kernel
theorem d_X_rest_48 : decode b_X_rest 48 = .ok (.getfield 23, 3) := by decide +kernel
theorem d_X_rest_51 : decode b_X_rest 51 = .ok (.iload_n 3, 1) := by decide +kernel
theorem d_X_rest_52 : decode b_X_rest 52 = .ok (.iload 4, 2) := by decide +kernel
theorem d_X_rest_54 : decode b_X_rest 54 = .ok (.invokevirtual 81, 3) := by decide +kernel
theorem d_X_rest_57 : decode b_X_rest 57 = .ok (.i2l, 1) := by decide +kernel
theorem d_X_rest_58 : decode b_X_rest 58 = .ok (.lmul, 1) := by decide +kernel
theorem d_X_rest_59 : decode b_X_rest 59 = .ok (.aload_n 0, 1) := by decide +kernel
theorem d_X_rest_60 : decode b_X_rest 60 = .ok (.iload_n 3, 1) := by decide +kernel
theorem d_X_rest_61 : decode b_X_rest 61 = .ok (.iload 4, 2) := by decide +kernel
theorem d_X_rest_63 : decode b_X_rest 63 = .ok (.invokevirtual 133, 3) := by decide +kernel
theorem d_X_rest_66 : decode b_X_rest 66 = .ok (.lsub, 1) := by decide +kernel
theorem d_X_rest_67 : decode b_X_rest 67 = .ok (.lreturn, 1) := by decide +kernel
theorem d_Ju_pairOf_0 : decode b_Ju_pairOf 0 = .ok (.iconst 0, 1) := by decide +kernel
theorem d_Ju_pairOf_1 : decode b_Ju_pairOf 1 = .ok (.istore_n 2, 1) := by decide +kernel
theorem d_Ju_pairOf_2 : decode b_Ju_pairOf 2 = .ok (.iconst 0, 1) := by decide +kernel
theorem d_Ju_pairOf_3 : decode b_Ju_pairOf 3 = .ok (.istore_n 3, 1) := by decide +kernel
theorem d_Ju_pairOf_4 : decode b_Ju_pairOf 4 = .ok (.iload_n 3, 1) := by decide +kernel
theorem d_Ju_pairOf_5 : decode b_Ju_pairOf 5 = .ok (.aload_n 0, 1) := by decide +kernel
theorem d_Ju_pairOf_6 : decode b_Ju_pairOf 6 = .ok (.getfield 9, 3) := by decide +kernel
theorem d_Ju_pairOf_9 : decode b_Ju_pairOf 9 = .ok (.arraylength, 1) := by decide +kernel
theorem d_Ju_pairOf_10 : decode b_Ju_pairOf 10 = .ok (.if_icmp .ge 29, 3) := by decide +kernel
theorem d_Ju_pairOf_13 : decode b_Ju_pairOf 13 = .ok (.aload_n 0, 1) := by decide +kernel
theorem d_Ju_pairOf_14 : decode b_Ju_pairOf 14 = .ok (.getfield 9, 3) := by decide +kernel
theorem d_Ju_pairOf_17 : decode b_Ju_pairOf 17 = .ok (.iload_n 3, 1) := by decide +kernel
theorem d_Ju_pairOf_18 : decode b_Ju_pairOf 18 = .ok (.iaload, 1) := by decide +kernel
theorem d_Ju_pairOf_19 : decode b_Ju_pairOf 19 = .ok (.iconst (-1), 1) := by decide +kernel
theorem d_Ju_pairOf_20 : decode b_Ju_pairOf 20 = .ok (.if_icmp .eq 13, 3) := by decide +kernel
theorem d_Ju_pairOf_23 : decode b_Ju_pairOf 23 = .ok (.iload_n 2, 1) := by decide +kernel
theorem d_Ju_pairOf_24 : decode b_Ju_pairOf 24 = .ok (.iload_n 1, 1) := by decide +kernel
theorem d_Ju_pairOf_25 : decode b_Ju_pairOf 25 = .ok (.if_icmp .ne 5, 3) := by decide +kernel
theorem d_Ju_pairOf_28 : decode b_Ju_pairOf 28 = .ok (.iload_n 3, 1) := by decide +kernel
theorem d_Ju_pairOf_29 : decode b_Ju_pairOf 29 = .ok (.ireturn, 1) := by decide +kernel
theorem d_Ju_pairOf_30 : decode b_Ju_pairOf 30 = .ok (.iinc 2 1, 3) := by decide +kernel
theorem d_Ju_pairOf_33 : decode b_Ju_pairOf 33 = .ok (.iinc 3 1, 3) := by decide +kernel
theorem d_Ju_pairOf_36 : decode b_Ju_pairOf 36 = .ok (.goto (-32), 3) := by decide +kernel
theorem d_Ju_pairOf_39 : decode b_Ju_pairOf 39 = .ok (.iconst (-1), 1) := by decide +kernel
theorem d_Ju_pairOf_40 : decode b_Ju_pairOf 40 = .ok (.ireturn, 1) := by decide +kernel
theorem d_X_node_0 : decode b_X_node 0 = .ok (.iload_n 1, 1) := by decide +kernel
theorem d_X_node_1 : decode b_X_node 1 = .ok (.aload_n 0, 1) := by decide +kernel
theorem d_X_node_2 : decode b_X_node 2 = .ok (.getfield 30, 3) := by decide +kernel
theorem d_X_node_5 : decode b_X_node 5 = .ok (.invokevirtual 143, 3) := by decide +kernel
theorem d_X_node_8 : decode b_X_node 8 = .ok (.iconst 1, 1) := by decide +kernel
theorem d_X_node_9 : decode b_X_node 9 = .ok (.isub, 1) := by decide +kernel
theorem d_X_node_10 : decode b_X_node 10 = .ok (.invokestatic 58, 3) := by decide +kernel
theorem d_X_node_13 : decode b_X_node 13 = .ok (.ifCond .eq 12, 3) := by decide +kernel
theorem d_X_node_16 : decode b_X_node 16 = .ok (.iload_n 2, 1) := by decide +kernel
theorem d_X_node_17 : decode b_X_node 17 = .ok (.bipush 6, 2) := by decide +kernel
theorem d_X_node_19 : decode b_X_node 19 = .ok (.invokestatic 58, 3) := by decide +kernel
theorem d_X_node_22 : decode b_X_node 22 = .ok (.ifCond .ne 7, 3) := by decide +kernel
theorem d_X_node_25 : decode b_X_node 25 = .ok (.ldc2_w 131, 3) := by decide +kernel
theorem d_X_node_28 : decode b_X_node 28 = .ok (.lreturn, 1) := by decide +kernel
theorem d_X_node_29 : decode b_X_node 29 = .ok (.aload_n 0, 1) := by decide +kernel
theorem d_X_node_30 : decode b_X_node 30 = .ok (.getfield 30, 3) := by decide +kernel
theorem d_X_node_33 : decode b_X_node 33 = .ok (.iload_n 1, 1) := by decide +kernel
theorem d_X_node_34 : decode b_X_node 34 = .ok (.invokevirtual 146, 3) := by decide +kernel
theorem d_X_node_37 : decode b_X_node 37 = .ok (.astore 4, 2) := by decide +kernel
theorem d_X_node_39 : decode b_X_node 39 = .ok (.aload 4, 2) := by decide +kernel
theorem d_X_node_41 : decode b_X_node 41 = .ok (.iload_n 2, 1) := by decide +kernel
theorem d_X_node_42 : decode b_X_node 42 = .ok (.invokevirtual 150, 3) := by decide +kernel
theorem d_X_node_45 : decode b_X_node 45 = .ok (.ifCond .eq 7, 3) := by decide +kernel
theorem d_X_node_48 : decode b_X_node 48 = .ok (.ldc2_w 131, 3) := by decide +kernel
theorem d_X_node_51 : decode b_X_node 51 = .ok (.lreturn, 1) := by decide +kernel
theorem d_X_node_52 : decode b_X_node 52 = .ok (.iload_n 3, 1) := by decide +kernel
theorem d_X_node_53 : decode b_X_node 53 = .ok (.tableswitch 65 0 2 #[27, 35, 43], 27) := by decide +kernel
theorem d_X_node_80 : decode b_X_node 80 = .ok (.aload 4, 2) := by decide +kernel
theorem d_X_node_82 : decode b_X_node 82 = .ok (.iload_n 2, 1) := by decide +kernel
theorem d_X_node_83 : decode b_X_node 83 = .ok (.invokevirtual 155, 3) := by decide +kernel
theorem d_X_node_86 : decode b_X_node 86 = .ok (.i2l, 1) := by decide +kernel
theorem d_X_node_87 : decode b_X_node 87 = .ok (.lreturn, 1) := by decide +kernel
theorem d_X_node_88 : decode b_X_node 88 = .ok (.aload 4, 2) := by decide +kernel
theorem d_X_node_90 : decode b_X_node 90 = .ok (.iload_n 2, 1) := by decide +kernel
theorem d_X_node_91 : decode b_X_node 91 = .ok (.invokevirtual 158, 3) := by decide +kernel
theorem d_X_node_94 : decode b_X_node 94 = .ok (.i2l, 1) := by decide +kernel
theorem d_X_node_95 : decode b_X_node 95 = .ok (.lreturn, 1) := by decide +kernel
theorem d_X_node_96 : decode b_X_node 96 = .ok (.aload 4, 2) := by decide +kernel
theorem d_X_node_98 : decode b_X_node 98 = .ok (.iload_n 2, 1) := by decide +kernel
theorem d_X_node_99 : decode b_X_node 99 = .ok (.invokevirtual 161, 3) := by decide +kernel
theorem d_X_node_102 : decode b_X_node 102 = .ok (.ifCond .eq 12, 3) := by decide +kernel
theorem d_X_node_105 : decode b_X_node 105 = .ok (.aload 4, 2) := by decide +kernel
theorem d_X_node_107 : decode b_X_node 107 = .ok (.iload_n 2, 1) := by decide +kernel
theorem d_X_node_108 : decode b_X_node 108 = .ok (.invokevirtual 164, 3) := by decide +kernel
theorem d_X_node_111 : decode b_X_node 111 = .ok (.goto 6, 3) := by decide +kernel
theorem d_X_node_114 : decode b_X_node 114 = .ok (.ldc2_w 131, 3) := by decide +kernel
theorem d_X_node_117 : decode b_X_node 117 = .ok (.lreturn, 1) := by decide +kernel
theorem d_X_node_118 : decode b_X_node 118 = .ok (.ldc2_w 131, 3) := by decide +kernel
theorem d_X_node_121 : decode b_X_node 121 = .ok (.lreturn, 1) := by decide +kernel
theorem d_Fo_size_0 : decode b_Fo_size 0 = .ok (.aload_n 0, 1) := by decide +kernel
theorem d_Fo_size_1 : decode b_Fo_size 1 = .ok (.getfield 17, 3) := by decide +kernel
theorem d_Fo_size_4 : decode b_Fo_size 4 = .ok (.ireturn, 1) := by decide +kernel
theorem d_Fo_treeAt_0 : decode b_Fo_treeAt 0 = .ok (.aload_n 0, 1) := by decide +kernel
theorem d_Fo_treeAt_1 : decode b_Fo_treeAt 1 = .ok (.getfield 11, 3) := by decide +kernel
theorem d_Fo_treeAt_4 : decode b_Fo_treeAt 4 = .ok (.iload_n 1, 1) := by decide +kernel
theorem d_Fo_treeAt_5 : decode b_Fo_treeAt 5 = .ok (.aaload, 1) := by decide +kernel
theorem d_Fo_treeAt_6 : decode b_Fo_treeAt 6 = .ok (.areturn, 1) := by decide +kernel
theorem d_Tr_isAbsent_0 : decode b_Tr_isAbsent 0 = .ok (.aload_n 0, 1) := by decide +kernel
theorem d_Tr_isAbsent_1 : decode b_Tr_isAbsent 1 = .ok (.getfield 9, 3) := by decide +kernel
theorem d_Tr_isAbsent_4 : decode b_Tr_isAbsent 4 = .ok (.iload_n 1, 1) := by decide +kernel
theorem d_Tr_isAbsent_5 : decode b_Tr_isAbsent 5 = .ok (.iaload, 1) := by decide +kernel
theorem d_Tr_isAbsent_6 : decode b_Tr_isAbsent 6 = .ok (.bipush (-2), 2) := by decide +kernel
theorem d_Tr_isAbsent_8 : decode b_Tr_isAbsent 8 = .ok (.if_icmp .ne 7, 3) := by decide +kernel
theorem d_Tr_isAbsent_11 : decode b_Tr_isAbsent 11 = .ok (.iconst 1, 1) := by decide +kernel
theorem d_Tr_isAbsent_12 : decode b_Tr_isAbsent 12 = .ok (.goto 4, 3) := by decide +kernel
theorem d_Tr_isAbsent_15 : decode b_Tr_isAbsent 15 = .ok (.iconst 0, 1) := by decide +kernel
theorem d_Tr_isAbsent_16 : decode b_Tr_isAbsent 16 = .ok (.ireturn, 1) := by decide +kernel
theorem d_Tr_featureAt_0 : decode b_Tr_featureAt 0 = .ok (.aload_n 0, 1) := by decide +kernel
theorem d_Tr_featureAt_1 : decode b_Tr_featureAt 1 = .ok (.getfield 9, 3) := by decide +kernel
theorem d_Tr_featureAt_4 : decode b_Tr_featureAt 4 = .ok (.iload_n 1, 1) := by decide +kernel
theorem d_Tr_featureAt_5 : decode b_Tr_featureAt 5 = .ok (.iaload, 1) := by decide +kernel
theorem d_Tr_featureAt_6 : decode b_Tr_featureAt 6 = .ok (.ireturn, 1) := by decide +kernel
theorem d_Tr_thresholdAt_0 : decode b_Tr_thresholdAt 0 = .ok (.aload_n 0, 1) := by decide +kernel
theorem d_Tr_thresholdAt_1 : decode b_Tr_thresholdAt 1 = .ok (.getfield 15, 3) := by decide +kernel
theorem d_Tr_thresholdAt_4 : decode b_Tr_thresholdAt 4 = .ok (.iload_n 1, 1) := by decide +kernel
theorem d_Tr_thresholdAt_5 : decode b_Tr_thresholdAt 5 = .ok (.iaload, 1) := by decide +kernel
theorem d_Tr_thresholdAt_6 : decode b_Tr_thresholdAt 6 = .ok (.ireturn, 1) := by decide +kernel
theorem d_Tr_valueAt_0 : decode b_Tr_valueAt 0 = .ok (.aload_n 0, 1) := by decide +kernel
theorem d_Tr_valueAt_1 : decode b_Tr_valueAt 1 = .ok (.getfield 18, 3) := by decide +kernel
theorem d_Tr_valueAt_4 : decode b_Tr_valueAt 4 = .ok (.iload_n 1, 1) := by decide +kernel
theorem d_Tr_valueAt_5 : decode b_Tr_valueAt 5 = .ok (.laload, 1) := by decide +kernel
theorem d_Tr_valueAt_6 : decode b_Tr_valueAt 6 = .ok (.lreturn, 1) := by decide +kernel
theorem d_X_count_0 : decode b_X_count 0 = .ok (.iload_n 1, 1) := by decide +kernel
theorem d_X_count_1 : decode b_X_count 1 = .ok (.ifCond .ge 30, 3) := by decide +kernel
theorem d_X_count_4 : decode b_X_count 4 = .ok (.iconst (-1), 1) := by decide +kernel
theorem d_X_count_5 : decode b_X_count 5 = .ok (.iload_n 1, 1) := by decide +kernel
theorem d_X_count_6 : decode b_X_count 6 = .ok (.isub, 1) := by decide +kernel
theorem d_X_count_7 : decode b_X_count 7 = .ok (.istore_n 2, 1) := by decide +kernel
theorem d_X_count_8 : decode b_X_count 8 = .ok (.iload_n 2, 1) := by decide +kernel
theorem d_X_count_9 : decode b_X_count 9 = .ok (.invokestatic 78, 3) := by decide +kernel
theorem d_X_count_12 : decode b_X_count 12 = .ok (.ifCond .eq 15, 3) := by decide +kernel
theorem d_X_count_15 : decode b_X_count 15 = .ok (.aload_n 0, 1) := by decide +kernel
theorem d_X_count_16 : decode b_X_count 16 = .ok (.getfield 16, 3) := by decide +kernel
theorem d_X_count_19 : decode b_X_count 19 = .ok (.iload_n 2, 1) := by decide +kernel
theorem d_X_count_20 : decode b_X_count 20 = .ok (.iaload, 1) := by decide +kernel
theorem d_X_count_21 : decode b_X_count 21 = .ok (.invokestatic 168, 3) := by decide +kernel
theorem d_X_count_24 : decode b_X_count 24 = .ok (.goto 6, 3) := by decide +kernel
theorem d_X_count_27 : decode b_X_count 27 = .ok (.sipush (-1000), 3) := by decide +kernel
theorem d_X_count_30 : decode b_X_count 30 = .ok (.ireturn, 1) := by decide +kernel
theorem d_X_count_31 : decode b_X_count 31 = .ok (.iload_n 1, 1) := by decide +kernel
theorem d_X_count_32 : decode b_X_count 32 = .ok (.lookupswitch 134 #[(0, 76), (1, 84), (2, 92), (3, 97), (4, 105), (5, 110), (1000, 118), (10000, 126)], 76) := by decide +kernel
theorem d_X_count_108 : decode b_X_count 108 = .ok (.aload_n 0, 1) := by decide +kernel
theorem d_X_count_109 : decode b_X_count 109 = .ok (.getfield 10, 3) := by decide +kernel
theorem d_X_count_112 : decode b_X_count 112 = .ok (.invokevirtual 173, 3) := by decide +kernel
theorem d_X_count_115 : decode b_X_count 115 = .ok (.ireturn, 1) := by decide +kernel
theorem d_X_count_116 : decode b_X_count 116 = .ok (.aload_n 0, 1) := by decide +kernel
theorem d_X_count_117 : decode b_X_count 117 = .ok (.getfield 23, 3) := by decide +kernel
theorem d_X_count_120 : decode b_X_count 120 = .ok (.invokevirtual 85, 3) := by decide +kernel
theorem d_X_count_123 : decode b_X_count 123 = .ok (.ireturn, 1) := by decide +kernel
theorem d_X_count_124 : decode b_X_count 124 = .ok (.aload_n 0, 1) := by decide +kernel
theorem d_X_count_125 : decode b_X_count 125 = .ok (.invokevirtual 174, 3) := by decide +kernel
theorem d_X_count_128 : decode b_X_count 128 = .ok (.ireturn, 1) := by decide +kernel
theorem d_X_count_129 : decode b_X_count 129 = .ok (.aload_n 0, 1) := by decide +kernel
theorem d_X_count_130 : decode b_X_count 130 = .ok (.getfield 30, 3) := by decide +kernel
theorem d_X_count_133 : decode b_X_count 133 = .ok (.invokevirtual 143, 3) := by decide +kernel
theorem d_X_count_136 : decode b_X_count 136 = .ok (.ireturn, 1) := by decide +kernel
theorem d_X_count_137 : decode b_X_count 137 = .ok (.aload_n 0, 1) := by decide +kernel
theorem d_X_count_138 : decode b_X_count 138 = .ok (.getfield 54, 3) := by decide +kernel
theorem d_X_count_141 : decode b_X_count 141 = .ok (.ireturn, 1) := by decide +kernel
theorem d_X_count_142 : decode b_X_count 142 = .ok (.aload_n 0, 1) := by decide +kernel
theorem d_X_count_143 : decode b_X_count 143 = .ok (.getfield 30, 3) := by decide +kernel
theorem d_X_count_146 : decode b_X_count 146 = .ok (.invokevirtual 177, 3) := by decide +kernel
theorem d_X_count_149 : decode b_X_count 149 = .ok (.ireturn, 1) := by decide +kernel
theorem d_X_count_150 : decode b_X_count 150 = .ok (.aload_n 0, 1) := by decide +kernel
theorem d_X_count_151 : decode b_X_count 151 = .ok (.getfield 10, 3) := by decide +kernel
theorem d_X_count_154 : decode b_X_count 154 = .ok (.invokevirtual 180, 3) := by decide +kernel
theorem d_X_count_157 : decode b_X_count 157 = .ok (.ireturn, 1) := by decide +kernel
theorem d_X_count_158 : decode b_X_count 158 = .ok (.aload_n 0, 1) := by decide +kernel
theorem d_X_count_159 : decode b_X_count 159 = .ok (.getfield 23, 3) := by decide +kernel
theorem d_X_count_162 : decode b_X_count 162 = .ok (.invokevirtual 183, 3) := by decide +kernel
theorem d_X_count_165 : decode b_X_count 165 = .ok (.ireturn, 1) := by decide +kernel
theorem d_X_count_166 : decode b_X_count 166 = .ok (.sipush (-1000), 3) := by decide +kernel
theorem d_X_count_169 : decode b_X_count 169 = .ok (.ireturn, 1) := by decide +kernel
theorem d_Integer_bitCount_0 : decode b_Integer_bitCount 0 = .ok (.iload_n 0, 1) := by decide +kernel
theorem d_Integer_bitCount_1 : decode b_Integer_bitCount 1 = .ok (.iload_n 0, 1) := by decide +kernel
theorem d_Integer_bitCount_2 : decode b_Integer_bitCount 2 = .ok (.iconst 1, 1) := by decide +kernel
theorem d_Integer_bitCount_3 : decode b_Integer_bitCount 3 = .ok (.iushr, 1) := by decide +kernel
theorem d_Integer_bitCount_4 : decode b_Integer_bitCount 4 = .ok (.ldc_w 265, 3) := by decide +kernel
theorem d_Integer_bitCount_7 : decode b_Integer_bitCount 7 = .ok (.iand, 1) := by decide +kernel
theorem d_Integer_bitCount_8 : decode b_Integer_bitCount 8 = .ok (.isub, 1) := by decide +kernel
theorem d_Integer_bitCount_9 : decode b_Integer_bitCount 9 = .ok (.istore_n 0, 1) := by decide +kernel
theorem d_Integer_bitCount_10 : decode b_Integer_bitCount 10 = .ok (.iload_n 0, 1) := by decide +kernel
theorem d_Integer_bitCount_11 : decode b_Integer_bitCount 11 = .ok (.ldc_w 266, 3) := by decide +kernel
theorem d_Integer_bitCount_14 : decode b_Integer_bitCount 14 = .ok (.iand, 1) := by decide +kernel
theorem d_Integer_bitCount_15 : decode b_Integer_bitCount 15 = .ok (.iload_n 0, 1) := by decide +kernel
theorem d_Integer_bitCount_16 : decode b_Integer_bitCount 16 = .ok (.iconst 2, 1) := by decide +kernel
theorem d_Integer_bitCount_17 : decode b_Integer_bitCount 17 = .ok (.iushr, 1) := by decide +kernel
theorem d_Integer_bitCount_18 : decode b_Integer_bitCount 18 = .ok (.ldc_w 266, 3) := by decide +kernel
theorem d_Integer_bitCount_21 : decode b_Integer_bitCount 21 = .ok (.iand, 1) := by decide +kernel
theorem d_Integer_bitCount_22 : decode b_Integer_bitCount 22 = .ok (.iadd, 1) := by decide +kernel
theorem d_Integer_bitCount_23 : decode b_Integer_bitCount 23 = .ok (.istore_n 0, 1) := by decide +kernel
theorem d_Integer_bitCount_24 : decode b_Integer_bitCount 24 = .ok (.iload_n 0, 1) := by decide +kernel
theorem d_Integer_bitCount_25 : decode b_Integer_bitCount 25 = .ok (.iload_n 0, 1) := by decide +kernel
theorem d_Integer_bitCount_26 : decode b_Integer_bitCount 26 = .ok (.iconst 4, 1) := by decide +kernel
theorem d_Integer_bitCount_27 : decode b_Integer_bitCount 27 = .ok (.iushr, 1) := by decide +kernel
theorem d_Integer_bitCount_28 : decode b_Integer_bitCount 28 = .ok (.iadd, 1) := by decide +kernel
theorem d_Integer_bitCount_29 : decode b_Integer_bitCount 29 = .ok (.ldc_w 267, 3) := by decide +kernel
theorem d_Integer_bitCount_32 : decode b_Integer_bitCount 32 = .ok (.iand, 1) := by decide +kernel
theorem d_Integer_bitCount_33 : decode b_Integer_bitCount 33 = .ok (.istore_n 0, 1) := by decide +kernel
theorem d_Integer_bitCount_34 : decode b_Integer_bitCount 34 = .ok (.iload_n 0, 1) := by decide +kernel
theorem d_Integer_bitCount_35 : decode b_Integer_bitCount 35 = .ok (.iload_n 0, 1) := by decide +kernel
theorem d_Integer_bitCount_36 : decode b_Integer_bitCount 36 = .ok (.bipush 8, 2) := by decide +kernel
theorem d_Integer_bitCount_38 : decode b_Integer_bitCount 38 = .ok (.iushr, 1) := by decide +kernel
theorem d_Integer_bitCount_39 : decode b_Integer_bitCount 39 = .ok (.iadd, 1) := by decide +kernel
theorem d_Integer_bitCount_40 : decode b_Integer_bitCount 40 = .ok (.istore_n 0, 1) := by decide +kernel
theorem d_Integer_bitCount_41 : decode b_Integer_bitCount 41 = .ok (.iload_n 0, 1) := by decide +kernel
theorem d_Integer_bitCount_42 : decode b_Integer_bitCount 42 = .ok (.iload_n 0, 1) := by decide +kernel
theorem d_Integer_bitCount_43 : decode b_Integer_bitCount 43 = .ok (.bipush 16, 2) := by decide +kernel
theorem d_Integer_bitCount_45 : decode b_Integer_bitCount 45 = .ok (.iushr, 1) := by decide +kernel
theorem d_Integer_bitCount_46 : decode b_Integer_bitCount 46 = .ok (.iadd, 1) := by decide +kernel
theorem d_Integer_bitCount_47 : decode b_Integer_bitCount 47 = .ok (.istore_n 0, 1) := by decide +kernel
theorem d_Integer_bitCount_48 : decode b_Integer_bitCount 48 = .ok (.iload_n 0, 1) := by decide +kernel
theorem d_Integer_bitCount_49 : decode b_Integer_bitCount 49 = .ok (.bipush 63, 2) := by decide +kernel
theorem d_Integer_bitCount_51 : decode b_Integer_bitCount 51 = .ok (.iand, 1) := by decide +kernel
theorem d_Integer_bitCount_52 : decode b_Integer_bitCount 52 = .ok (.ireturn, 1) := by decide +kernel
theorem d_Sh_number_0 : decode b_Sh_number 0 = .ok (.iconst 0, 1) := by decide +kernel
theorem d_Sh_number_1 : decode b_Sh_number 1 = .ok (.istore_n 1, 1) := by decide +kernel
theorem d_Sh_number_2 : decode b_Sh_number 2 = .ok (.iconst 0, 1) := by decide +kernel
theorem d_Sh_number_3 : decode b_Sh_number 3 = .ok (.istore_n 2, 1) := by decide +kernel
theorem d_Sh_number_4 : decode b_Sh_number 4 = .ok (.iload_n 2, 1) := by decide +kernel
theorem d_Sh_number_5 : decode b_Sh_number 5 = .ok (.bipush 16, 2) := by decide +kernel
theorem d_Sh_number_7 : decode b_Sh_number 7 = .ok (.if_icmp .ge 21, 3) := by decide +kernel
theorem d_Sh_number_10 : decode b_Sh_number 10 = .ok (.aload_n 0, 1) := by decide +kernel
theorem d_Sh_number_11 : decode b_Sh_number 11 = .ok (.getfield 9, 3) := by decide +kernel
theorem d_Sh_number_14 : decode b_Sh_number 14 = .ok (.iload_n 2, 1) := by decide +kernel
theorem d_Sh_number_15 : decode b_Sh_number 15 = .ok (.baload, 1) := by decide +kernel
theorem d_Sh_number_16 : decode b_Sh_number 16 = .ok (.ifCond .eq 6, 3) := by decide +kernel
theorem d_Sh_number_19 : decode b_Sh_number 19 = .ok (.iinc 1 1, 3) := by decide +kernel
theorem d_Sh_number_22 : decode b_Sh_number 22 = .ok (.iinc 2 1, 3) := by decide +kernel
theorem d_Sh_number_25 : decode b_Sh_number 25 = .ok (.goto (-21), 3) := by decide +kernel
theorem d_Sh_number_28 : decode b_Sh_number 28 = .ok (.iload_n 1, 1) := by decide +kernel
theorem d_Sh_number_29 : decode b_Sh_number 29 = .ok (.ireturn, 1) := by decide +kernel
theorem d_X_liveJudgements_0 : decode b_X_liveJudgements 0 = .ok (.iconst 0, 1) := by decide +kernel
theorem d_X_liveJudgements_1 : decode b_X_liveJudgements 1 = .ok (.istore_n 1, 1) := by decide +kernel
theorem d_X_liveJudgements_2 : decode b_X_liveJudgements 2 = .ok (.iconst 0, 1) := by decide +kernel
theorem d_X_liveJudgements_3 : decode b_X_liveJudgements 3 = .ok (.istore_n 2, 1) := by decide +kernel
theorem d_X_liveJudgements_4 : decode b_X_liveJudgements 4 = .ok (.iload_n 2, 1) := by decide +kernel
theorem d_X_liveJudgements_5 : decode b_X_liveJudgements 5 = .ok (.bipush 8, 2) := by decide +kernel
theorem d_X_liveJudgements_7 : decode b_X_liveJudgements 7 = .ok (.if_icmp .ge 35, 3) := by decide +kernel
theorem d_X_liveJudgements_10 : decode b_X_liveJudgements 10 = .ok (.iconst 0, 1) := by decide +kernel
theorem d_X_liveJudgements_11 : decode b_X_liveJudgements 11 = .ok (.istore_n 3, 1) := by decide +kernel
theorem d_X_liveJudgements_12 : decode b_X_liveJudgements 12 = .ok (.iload_n 3, 1) := by decide +kernel
theorem d_X_liveJudgements_13 : decode b_X_liveJudgements 13 = .ok (.bipush 16, 2) := by decide +kernel
theorem d_X_liveJudgements_15 : decode b_X_liveJudgements 15 = .ok (.if_icmp .ge 21, 3) := by decide +kernel
theorem d_X_liveJudgements_18 : decode b_X_liveJudgements 18 = .ok (.aload_n 0, 1) := by decide +kernel
theorem d_X_liveJudgements_19 : decode b_X_liveJudgements 19 = .ok (.iload_n 2, 1) := by decide +kernel
theorem d_X_liveJudgements_20 : decode b_X_liveJudgements 20 = .ok (.iload_n 3, 1) := by decide +kernel
theorem d_X_liveJudgements_21 : decode b_X_liveJudgements 21 = .ok (.invokevirtual 186, 3) := by decide +kernel
theorem d_X_liveJudgements_24 : decode b_X_liveJudgements 24 = .ok (.ifCond .eq 6, 3) := by decide +kernel
theorem d_X_liveJudgements_27 : decode b_X_liveJudgements 27 = .ok (.iinc 1 1, 3) := by decide +kernel
theorem d_X_liveJudgements_30 : decode b_X_liveJudgements 30 = .ok (.iinc 3 1, 3) := by decide +kernel
theorem d_X_liveJudgements_33 : decode b_X_liveJudgements 33 = .ok (.goto (-21), 3) := by decide +kernel
theorem d_X_liveJudgements_36 : decode b_X_liveJudgements 36 = .ok (.iinc 2 1, 3) := by decide +kernel
theorem d_X_liveJudgements_39 : decode b_X_liveJudgements 39 = .ok (.goto (-35), 3) := by decide +kernel
theorem d_X_liveJudgements_42 : decode b_X_liveJudgements 42 = .ok (.iload_n 1, 1) := by decide +kernel
theorem d_X_liveJudgements_43 : decode b_X_liveJudgements 43 = .ok (.ireturn, 1) := by decide +kernel
theorem d_Fo_splits_0 : decode b_Fo_splits 0 = .ok (.iconst 0, 1) := by decide +kernel
theorem d_Fo_splits_1 : decode b_Fo_splits 1 = .ok (.istore_n 1, 1) := by decide +kernel
theorem d_Fo_splits_2 : decode b_Fo_splits 2 = .ok (.iconst 0, 1) := by decide +kernel
theorem d_Fo_splits_3 : decode b_Fo_splits 3 = .ok (.istore_n 2, 1) := by decide +kernel
theorem d_Fo_splits_4 : decode b_Fo_splits 4 = .ok (.iload_n 2, 1) := by decide +kernel
theorem d_Fo_splits_5 : decode b_Fo_splits 5 = .ok (.aload_n 0, 1) := by decide +kernel
theorem d_Fo_splits_6 : decode b_Fo_splits 6 = .ok (.getfield 17, 3) := by decide +kernel
theorem d_Fo_splits_9 : decode b_Fo_splits 9 = .ok (.if_icmp .ge 21, 3) := by decide +kernel
theorem d_Fo_splits_12 : decode b_Fo_splits 12 = .ok (.iload_n 1, 1) := by decide +kernel
theorem d_Fo_splits_13 : decode b_Fo_splits 13 = .ok (.aload_n 0, 1) := by decide +kernel
theorem d_Fo_splits_14 : decode b_Fo_splits 14 = .ok (.getfield 11, 3) := by decide +kernel
theorem d_Fo_splits_17 : decode b_Fo_splits 17 = .ok (.iload_n 2, 1) := by decide +kernel
theorem d_Fo_splits_18 : decode b_Fo_splits 18 = .ok (.aaload, 1) := by decide +kernel
theorem d_Fo_splits_19 : decode b_Fo_splits 19 = .ok (.invokevirtual 35, 3) := by decide +kernel
theorem d_Fo_splits_22 : decode b_Fo_splits 22 = .ok (.iadd, 1) := by decide +kernel
theorem d_Fo_splits_23 : decode b_Fo_splits 23 = .ok (.istore_n 1, 1) := by decide +kernel
theorem d_Fo_splits_24 : decode b_Fo_splits 24 = .ok (.iinc 2 1, 3) := by decide +kernel
theorem d_Fo_splits_27 : decode b_Fo_splits 27 = .ok (.goto (-23), 3) := by decide +kernel
theorem d_Fo_splits_30 : decode b_Fo_splits 30 = .ok (.iload_n 1, 1) := by decide +kernel
theorem d_Fo_splits_31 : decode b_Fo_splits 31 = .ok (.ireturn, 1) := by decide +kernel
theorem d_Tr_splits_0 : decode b_Tr_splits 0 = .ok (.iconst 0, 1) := by decide +kernel
theorem d_Tr_splits_1 : decode b_Tr_splits 1 = .ok (.istore_n 1, 1) := by decide +kernel
theorem d_Tr_splits_2 : decode b_Tr_splits 2 = .ok (.iconst 0, 1) := by decide +kernel
theorem d_Tr_splits_3 : decode b_Tr_splits 3 = .ok (.istore_n 2, 1) := by decide +kernel
theorem d_Tr_splits_4 : decode b_Tr_splits 4 = .ok (.iload_n 2, 1) := by decide +kernel
theorem d_Tr_splits_5 : decode b_Tr_splits 5 = .ok (.bipush 7, 2) := by decide +kernel
theorem d_Tr_splits_7 : decode b_Tr_splits 7 = .ok (.if_icmp .ge 20, 3) := by decide +kernel
theorem d_Tr_splits_10 : decode b_Tr_splits 10 = .ok (.aload_n 0, 1) := by decide +kernel
theorem d_Tr_splits_11 : decode b_Tr_splits 11 = .ok (.iload_n 2, 1) := by decide +kernel
theorem d_Tr_splits_12 : decode b_Tr_splits 12 = .ok (.invokevirtual 32, 3) := by decide +kernel
theorem d_Tr_splits_15 : decode b_Tr_splits 15 = .ok (.ifCond .eq 6, 3) := by decide +kernel
theorem d_Tr_splits_18 : decode b_Tr_splits 18 = .ok (.iinc 1 1, 3) := by decide +kernel
theorem d_Tr_splits_21 : decode b_Tr_splits 21 = .ok (.iinc 2 1, 3) := by decide +kernel
theorem d_Tr_splits_24 : decode b_Tr_splits 24 = .ok (.goto (-20), 3) := by decide +kernel
theorem d_Tr_splits_27 : decode b_Tr_splits 27 = .ok (.iload_n 1, 1) := by decide +kernel
theorem d_Tr_splits_28 : decode b_Tr_splits 28 = .ok (.ireturn, 1) := by decide +kernel
theorem d_Sh_sumOfSizes_0 : decode b_Sh_sumOfSizes 0 = .ok (.iconst 0, 1) := by decide +kernel
theorem d_Sh_sumOfSizes_1 : decode b_Sh_sumOfSizes 1 = .ok (.istore_n 1, 1) := by decide +kernel
theorem d_Sh_sumOfSizes_2 : decode b_Sh_sumOfSizes 2 = .ok (.iconst 0, 1) := by decide +kernel
theorem d_Sh_sumOfSizes_3 : decode b_Sh_sumOfSizes 3 = .ok (.istore_n 2, 1) := by decide +kernel
theorem d_Sh_sumOfSizes_4 : decode b_Sh_sumOfSizes 4 = .ok (.iload_n 2, 1) := by decide +kernel
theorem d_Sh_sumOfSizes_5 : decode b_Sh_sumOfSizes 5 = .ok (.bipush 16, 2) := by decide +kernel
theorem d_Sh_sumOfSizes_7 : decode b_Sh_sumOfSizes 7 = .ok (.if_icmp .ge 26, 3) := by decide +kernel
theorem d_Sh_sumOfSizes_10 : decode b_Sh_sumOfSizes 10 = .ok (.aload_n 0, 1) := by decide +kernel
theorem d_Sh_sumOfSizes_11 : decode b_Sh_sumOfSizes 11 = .ok (.getfield 9, 3) := by decide +kernel
theorem d_Sh_sumOfSizes_14 : decode b_Sh_sumOfSizes 14 = .ok (.iload_n 2, 1) := by decide +kernel
theorem d_Sh_sumOfSizes_15 : decode b_Sh_sumOfSizes 15 = .ok (.baload, 1) := by decide +kernel
theorem d_Sh_sumOfSizes_16 : decode b_Sh_sumOfSizes 16 = .ok (.ifCond .eq 11, 3) := by decide +kernel
theorem d_Sh_sumOfSizes_19 : decode b_Sh_sumOfSizes 19 = .ok (.iload_n 1, 1) := by decide +kernel
theorem d_Sh_sumOfSizes_20 : decode b_Sh_sumOfSizes 20 = .ok (.aload_n 0, 1) := by decide +kernel
theorem d_Sh_sumOfSizes_21 : decode b_Sh_sumOfSizes 21 = .ok (.iload_n 2, 1) := by decide +kernel
theorem d_Sh_sumOfSizes_22 : decode b_Sh_sumOfSizes 22 = .ok (.invokevirtual 34, 3) := by decide +kernel
theorem d_Sh_sumOfSizes_25 : decode b_Sh_sumOfSizes 25 = .ok (.iadd, 1) := by decide +kernel
theorem d_Sh_sumOfSizes_26 : decode b_Sh_sumOfSizes 26 = .ok (.istore_n 1, 1) := by decide +kernel
theorem d_Sh_sumOfSizes_27 : decode b_Sh_sumOfSizes 27 = .ok (.iinc 2 1, 3) := by decide +kernel
theorem d_Sh_sumOfSizes_30 : decode b_Sh_sumOfSizes 30 = .ok (.goto (-26), 3) := by decide +kernel
theorem d_Sh_sumOfSizes_33 : decode b_Sh_sumOfSizes 33 = .ok (.iload_n 1, 1) := by decide +kernel
theorem d_Sh_sumOfSizes_34 : decode b_Sh_sumOfSizes 34 = .ok (.ireturn, 1) := by decide +kernel
theorem d_Ju_sumOfGrades_0 : decode b_Ju_sumOfGrades 0 = .ok (.iconst 0, 1) := by decide +kernel
theorem d_Ju_sumOfGrades_1 : decode b_Ju_sumOfGrades 1 = .ok (.istore_n 1, 1) := by decide +kernel
theorem d_Ju_sumOfGrades_2 : decode b_Ju_sumOfGrades 2 = .ok (.iconst 0, 1) := by decide +kernel
theorem d_Ju_sumOfGrades_3 : decode b_Ju_sumOfGrades 3 = .ok (.istore_n 2, 1) := by decide +kernel
theorem d_Ju_sumOfGrades_4 : decode b_Ju_sumOfGrades 4 = .ok (.iload_n 2, 1) := by decide +kernel
theorem d_Ju_sumOfGrades_5 : decode b_Ju_sumOfGrades 5 = .ok (.aload_n 0, 1) := by decide +kernel
theorem d_Ju_sumOfGrades_6 : decode b_Ju_sumOfGrades 6 = .ok (.getfield 9, 3) := by decide +kernel
theorem d_Ju_sumOfGrades_9 : decode b_Ju_sumOfGrades 9 = .ok (.arraylength, 1) := by decide +kernel
theorem d_Ju_sumOfGrades_10 : decode b_Ju_sumOfGrades 10 = .ok (.if_icmp .ge 28, 3) := by decide +kernel
theorem d_Ju_sumOfGrades_13 : decode b_Ju_sumOfGrades 13 = .ok (.aload_n 0, 1) := by decide +kernel
theorem d_Ju_sumOfGrades_14 : decode b_Ju_sumOfGrades 14 = .ok (.getfield 9, 3) := by decide +kernel
theorem d_Ju_sumOfGrades_17 : decode b_Ju_sumOfGrades 17 = .ok (.iload_n 2, 1) := by decide +kernel
theorem d_Ju_sumOfGrades_18 : decode b_Ju_sumOfGrades 18 = .ok (.iaload, 1) := by decide +kernel
theorem d_Ju_sumOfGrades_19 : decode b_Ju_sumOfGrades 19 = .ok (.iconst (-1), 1) := by decide +kernel
theorem d_Ju_sumOfGrades_20 : decode b_Ju_sumOfGrades 20 = .ok (.if_icmp .eq 12, 3) := by decide +kernel
theorem d_Ju_sumOfGrades_23 : decode b_Ju_sumOfGrades 23 = .ok (.iload_n 1, 1) := by decide +kernel
theorem d_Ju_sumOfGrades_24 : decode b_Ju_sumOfGrades 24 = .ok (.aload_n 0, 1) := by decide +kernel
theorem d_Ju_sumOfGrades_25 : decode b_Ju_sumOfGrades 25 = .ok (.getfield 9, 3) := by decide +kernel
theorem d_Ju_sumOfGrades_28 : decode b_Ju_sumOfGrades 28 = .ok (.iload_n 2, 1) := by decide +kernel
theorem d_Ju_sumOfGrades_29 : decode b_Ju_sumOfGrades 29 = .ok (.iaload, 1) := by decide +kernel
theorem d_Ju_sumOfGrades_30 : decode b_Ju_sumOfGrades 30 = .ok (.iadd, 1) := by decide +kernel
theorem d_Ju_sumOfGrades_31 : decode b_Ju_sumOfGrades 31 = .ok (.istore_n 1, 1) := by decide +kernel
theorem d_Ju_sumOfGrades_32 : decode b_Ju_sumOfGrades 32 = .ok (.iinc 2 1, 3) := by decide +kernel
theorem d_Ju_sumOfGrades_35 : decode b_Ju_sumOfGrades 35 = .ok (.goto (-31), 3) := by decide +kernel
theorem d_Ju_sumOfGrades_38 : decode b_Ju_sumOfGrades 38 = .ok (.iload_n 1, 1) := by decide +kernel
theorem d_Ju_sumOfGrades_39 : decode b_Ju_sumOfGrades 39 = .ok (.ireturn, 1) := by decide +kernel
theorem d_M_init_0 : decode b_M_init 0 = .ok (.aload_n 0, 1) := by decide +kernel
theorem d_M_init_1 : decode b_M_init 1 = .ok (.invokespecial 1, 3) := by decide +kernel
theorem d_M_init_4 : decode b_M_init 4 = .ok (.aload_n 0, 1) := by decide +kernel
theorem d_M_init_5 : decode b_M_init 5 = .ok (.bipush 16, 2) := by decide +kernel
theorem d_M_init_7 : decode b_M_init 7 = .ok (.newarray .boolean, 2) := by decide +kernel
theorem d_M_init_9 : decode b_M_init 9 = .ok (.putfield 7, 3) := by decide +kernel
theorem d_M_init_12 : decode b_M_init 12 = .ok (.aload_n 0, 1) := by decide +kernel
theorem d_M_init_13 : decode b_M_init 13 = .ok (.bipush 16, 2) := by decide +kernel
theorem d_M_init_15 : decode b_M_init 15 = .ok (.newarray .int, 2) := by decide +kernel
theorem d_M_init_17 : decode b_M_init 17 = .ok (.putfield 13, 3) := by decide +kernel
theorem d_M_init_20 : decode b_M_init 20 = .ok (.aload_n 0, 1) := by decide +kernel
theorem d_M_init_21 : decode b_M_init 21 = .ok (.sipush 192, 3) := by decide +kernel
theorem d_M_init_24 : decode b_M_init 24 = .ok (.newarray .int, 2) := by decide +kernel
theorem d_M_init_26 : decode b_M_init 26 = .ok (.putfield 17, 3) := by decide +kernel
theorem d_M_init_29 : decode b_M_init 29 = .ok (.aload_n 0, 1) := by decide +kernel
theorem d_M_init_30 : decode b_M_init 30 = .ok (.bipush 8, 2) := by decide +kernel
theorem d_M_init_32 : decode b_M_init 32 = .ok (.newarray .int, 2) := by decide +kernel
theorem d_M_init_34 : decode b_M_init 34 = .ok (.putfield 20, 3) := by decide +kernel
theorem d_M_init_37 : decode b_M_init 37 = .ok (.aload_n 0, 1) := by decide +kernel
theorem d_M_init_38 : decode b_M_init 38 = .ok (.sipush 128, 3) := by decide +kernel
theorem d_M_init_41 : decode b_M_init 41 = .ok (.newarray .int, 2) := by decide +kernel
theorem d_M_init_43 : decode b_M_init 43 = .ok (.putfield 23, 3) := by decide +kernel
theorem d_M_init_46 : decode b_M_init 46 = .ok (.aload_n 0, 1) := by decide +kernel
theorem d_M_init_47 : decode b_M_init 47 = .ok (.bipush 8, 2) := by decide +kernel
theorem d_M_init_49 : decode b_M_init 49 = .ok (.putfield 26, 3) := by decide +kernel
theorem d_M_init_52 : decode b_M_init 52 = .ok (.aload_n 0, 1) := by decide +kernel
theorem d_M_init_53 : decode b_M_init 53 = .ok (.bipush 28, 2) := by decide +kernel
theorem d_M_init_55 : decode b_M_init 55 = .ok (.newarray .int, 2) := by decide +kernel
theorem d_M_init_57 : decode b_M_init 57 = .ok (.putfield 30, 3) := by decide +kernel
theorem d_M_init_60 : decode b_M_init 60 = .ok (.aload_n 0, 1) := by decide +kernel
theorem d_M_init_61 : decode b_M_init 61 = .ok (.bipush 28, 2) := by decide +kernel
theorem d_M_init_63 : decode b_M_init 63 = .ok (.newarray .int, 2) := by decide +kernel
theorem d_M_init_65 : decode b_M_init 65 = .ok (.putfield 33, 3) := by decide +kernel
theorem d_M_init_68 : decode b_M_init 68 = .ok (.aload_n 0, 1) := by decide +kernel
theorem d_M_init_69 : decode b_M_init 69 = .ok (.bipush 28, 2) := by decide +kernel
theorem d_M_init_71 : decode b_M_init 71 = .ok (.newarray .int, 2) := by decide +kernel
theorem d_M_init_73 : decode b_M_init 73 = .ok (.putfield 36, 3) := by decide +kernel
theorem d_M_init_76 : decode b_M_init 76 = .ok (.aload_n 0, 1) := by decide +kernel
theorem d_M_init_77 : decode b_M_init 77 = .ok (.bipush 28, 2) := by decide +kernel
theorem d_M_init_79 : decode b_M_init 79 = .ok (.newarray .long, 2) := by decide +kernel
theorem d_M_init_81 : decode b_M_init 81 = .ok (.putfield 39, 3) := by decide +kernel
theorem d_M_init_84 : decode b_M_init 84 = .ok (.aload_n 0, 1) := by decide +kernel
theorem d_M_init_85 : decode b_M_init 85 = .ok (.bipush 80, 2) := by decide +kernel
theorem d_M_init_87 : decode b_M_init 87 = .ok (.newarray .int, 2) := by decide +kernel
theorem d_M_init_89 : decode b_M_init 89 = .ok (.putfield 43, 3) := by decide +kernel
theorem d_M_init_92 : decode b_M_init 92 = .ok (.aload_n 0, 1) := by decide +kernel
theorem d_M_init_93 : decode b_M_init 93 = .ok (.bipush 16, 2) := by decide +kernel
theorem d_M_init_95 : decode b_M_init 95 = .ok (.newarray .int, 2) := by decide +kernel
theorem d_M_init_97 : decode b_M_init 97 = .ok (.putfield 46, 3) := by decide +kernel
theorem d_M_init_100 : decode b_M_init 100 = .ok (.aload_n 0, 1) := by decide +kernel
theorem d_M_init_101 : decode b_M_init 101 = .ok (.bipush 16, 2) := by decide +kernel
theorem d_M_init_103 : decode b_M_init 103 = .ok (.newarray .long, 2) := by decide +kernel
theorem d_M_init_105 : decode b_M_init 105 = .ok (.putfield 49, 3) := by decide +kernel
theorem d_M_init_108 : decode b_M_init 108 = .ok (.aload_n 0, 1) := by decide +kernel
theorem d_M_init_109 : decode b_M_init 109 = .ok (.bipush 16, 2) := by decide +kernel
theorem d_M_init_111 : decode b_M_init 111 = .ok (.newarray .int, 2) := by decide +kernel
theorem d_M_init_113 : decode b_M_init 113 = .ok (.putfield 52, 3) := by decide +kernel
theorem d_M_init_116 : decode b_M_init 116 = .ok (.aload_n 0, 1) := by decide +kernel
theorem d_M_init_117 : decode b_M_init 117 = .ok (.bipush 16, 2) := by decide +kernel
theorem d_M_init_119 : decode b_M_init 119 = .ok (.newarray .int, 2) := by decide +kernel
theorem d_M_init_121 : decode b_M_init 121 = .ok (.putfield 55, 3) := by decide +kernel
theorem d_M_init_124 : decode b_M_init 124 = .ok (.iconst 0, 1) := by decide +kernel
theorem d_M_init_125 : decode b_M_init 125 = .ok (.istore_n 1, 1) := by decide +kernel
theorem d_M_init_126 : decode b_M_init 126 = .ok (.iload_n 1, 1) := by decide +kernel
theorem d_M_init_127 : decode b_M_init 127 = .ok (.sipush 128, 3) := by decide +kernel
theorem d_M_init_130 : decode b_M_init 130 = .ok (.if_icmp .ge 16, 3) := by decide +kernel
theorem d_M_init_133 : decode b_M_init 133 = .ok (.aload_n 0, 1) := by decide +kernel
theorem d_M_init_134 : decode b_M_init 134 = .ok (.getfield 23, 3) := by decide +kernel
theorem d_M_init_137 : decode b_M_init 137 = .ok (.iload_n 1, 1) := by decide +kernel
theorem d_M_init_138 : decode b_M_init 138 = .ok (.iconst (-1), 1) := by decide +kernel
theorem d_M_init_139 : decode b_M_init 139 = .ok (.iastore, 1) := by decide +kernel
theorem d_M_init_140 : decode b_M_init 140 = .ok (.iinc 1 1, 3) := by decide +kernel
theorem d_M_init_143 : decode b_M_init 143 = .ok (.goto (-17), 3) := by decide +kernel
theorem d_M_init_146 : decode b_M_init 146 = .ok (.return_, 1) := by decide +kernel
theorem d_M_document_0 : decode b_M_document 0 = .ok (.iload_n 1, 1) := by decide +kernel
theorem d_M_document_1 : decode b_M_document 1 = .ok (.bipush 16, 2) := by decide +kernel
theorem d_M_document_3 : decode b_M_document 3 = .ok (.invokestatic 58, 3) := by decide +kernel
theorem d_M_document_6 : decode b_M_document 6 = .ok (.ifCond .eq 12, 3) := by decide +kernel
theorem d_M_document_9 : decode b_M_document 9 = .ok (.iload_n 2, 1) := by decide +kernel
theorem d_M_document_10 : decode b_M_document 10 = .ok (.bipush 16, 2) := by decide +kernel
theorem d_M_document_12 : decode b_M_document 12 = .ok (.invokestatic 58, 3) := by decide +kernel
theorem d_M_document_15 : decode b_M_document 15 = .ok (.ifCond .ne 5, 3) := by decide +kernel
theorem d_M_document_18 : decode b_M_document 18 = .ok (.iconst (-1), 1) := by decide +kernel
theorem d_M_document_19 : decode b_M_document 19 = .ok (.ireturn, 1) := by decide +kernel
theorem d_M_document_20 : decode b_M_document 20 = .ok (.aload_n 0, 1) := by decide +kernel
theorem d_M_document_21 : decode b_M_document 21 = .ok (.getfield 7, 3) := by decide +kernel
theorem d_M_document_24 : decode b_M_document 24 = .ok (.iload_n 1, 1) := by decide +kernel
theorem d_M_document_25 : decode b_M_document 25 = .ok (.iconst 1, 1) := by decide +kernel
theorem d_M_document_26 : decode b_M_document 26 = .ok (.bastore, 1) := by decide +kernel
theorem d_M_document_27 : decode b_M_document 27 = .ok (.aload_n 0, 1) := by decide +kernel
theorem d_M_document_28 : decode b_M_document 28 = .ok (.getfield 13, 3) := by decide +kernel
theorem d_M_document_31 : decode b_M_document 31 = .ok (.iload_n 1, 1) := by decide +kernel
theorem d_M_document_32 : decode b_M_document 32 = .ok (.iload_n 2, 1) := by decide +kernel
theorem d_M_document_33 : decode b_M_document 33 = .ok (.iastore, 1) := by decide +kernel
theorem d_M_document_34 : decode b_M_document 34 = .ok (.iconst 0, 1) := by decide +kernel
theorem d_M_document_35 : decode b_M_document 35 = .ok (.istore_n 3, 1) := by decide +kernel
theorem d_M_document_36 : decode b_M_document 36 = .ok (.iload_n 3, 1) := by decide +kernel
theorem d_M_document_37 : decode b_M_document 37 = .ok (.bipush 12, 2) := by decide +kernel
theorem d_M_document_39 : decode b_M_document 39 = .ok (.if_icmp .ge 21, 3) := by decide +kernel
theorem d_M_document_42 : decode b_M_document 42 = .ok (.aload_n 0, 1) := by decide +kernel
theorem d_M_document_43 : decode b_M_document 43 = .ok (.getfield 17, 3) := by decide +kernel
theorem d_M_document_46 : decode b_M_document 46 = .ok (.iload_n 1, 1) := by decide +kernel
theorem d_M_document_47 : decode b_M_document 47 = .ok (.bipush 12, 2) := by decide +kernel
theorem d_M_document_49 : decode b_M_document 49 = .ok (.imul, 1) := by decide +kernel
theorem d_M_document_50 : decode b_M_document 50 = .ok (.iload_n 3, 1) := by decide +kernel
theorem d_M_document_51 : decode b_M_document 51 = .ok (.iadd, 1) := by decide +kernel
theorem d_M_document_52 : decode b_M_document 52 = .ok (.iconst 0, 1) := by decide +kernel
theorem d_M_document_53 : decode b_M_document 53 = .ok (.iastore, 1) := by decide +kernel
theorem d_M_document_54 : decode b_M_document 54 = .ok (.iinc 3 1, 3) := by decide +kernel
theorem d_M_document_57 : decode b_M_document 57 = .ok (.goto (-21), 3) := by decide +kernel
theorem d_M_document_60 : decode b_M_document 60 = .ok (.iconst 0, 1) := by decide +kernel
theorem d_M_document_61 : decode b_M_document 61 = .ok (.ireturn, 1) := by decide +kernel
theorem d_M_in_0 : decode b_M_in 0 = .ok (.iload_n 0, 1) := by decide +kernel
theorem d_M_in_1 : decode b_M_in 1 = .ok (.ifCond .lt 12, 3) := by decide +kernel
theorem d_M_in_4 : decode b_M_in 4 = .ok (.iload_n 0, 1) := by decide +kernel
theorem d_M_in_5 : decode b_M_in 5 = .ok (.iload_n 1, 1) := by decide +kernel
theorem d_M_in_6 : decode b_M_in 6 = .ok (.if_icmp .ge 7, 3) := by decide +kernel
theorem d_M_in_9 : decode b_M_in 9 = .ok (.iconst 1, 1) := by decide +kernel
theorem d_M_in_10 : decode b_M_in 10 = .ok (.goto 4, 3) := by decide +kernel
theorem d_M_in_13 : decode b_M_in 13 = .ok (.iconst 0, 1) := by decide +kernel
theorem d_M_in_14 : decode b_M_in 14 = .ok (.ireturn, 1) := by decide +kernel
theorem d_M_remove_0 : decode b_M_remove 0 = .ok (.aload_n 0, 1) := by decide +kernel
theorem d_M_remove_1 : decode b_M_remove 1 = .ok (.iload_n 1, 1) := by decide +kernel
theorem d_M_remove_2 : decode b_M_remove 2 = .ok (.invokevirtual 62, 3) := by decide +kernel
theorem d_M_remove_5 : decode b_M_remove 5 = .ok (.ifCond .ne 5, 3) := by decide +kernel
theorem d_M_remove_8 : decode b_M_remove 8 = .ok (.iconst (-1), 1) := by decide +kernel
theorem d_M_remove_9 : decode b_M_remove 9 = .ok (.ireturn, 1) := by decide +kernel
theorem d_M_remove_10 : decode b_M_remove 10 = .ok (.aload_n 0, 1) := by decide +kernel
theorem d_M_remove_11 : decode b_M_remove 11 = .ok (.getfield 7, 3) := by decide +kernel
theorem d_M_remove_14 : decode b_M_remove 14 = .ok (.iload_n 1, 1) := by decide +kernel
theorem d_M_remove_15 : decode b_M_remove 15 = .ok (.iconst 0, 1) := by decide +kernel
theorem d_M_remove_16 : decode b_M_remove 16 = .ok (.bastore, 1) := by decide +kernel
theorem d_M_remove_17 : decode b_M_remove 17 = .ok (.iconst 0, 1) := by decide +kernel
