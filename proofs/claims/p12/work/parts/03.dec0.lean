theorem d_X_init_0 : decode b_X_init 0 = .ok (.aload_n 0, 1) := by decide +kernel
theorem d_X_init_1 : decode b_X_init 1 = .ok (.invokespecial 1, 3) := by decide +kernel
theorem d_X_init_4 : decode b_X_init 4 = .ok (.aload_n 0, 1) := by decide +kernel
theorem d_X_init_5 : decode b_X_init 5 = .ok (.new 7, 3) := by decide +kernel
theorem d_X_init_8 : decode b_X_init 8 = .ok (.dup, 1) := by decide +kernel
theorem d_X_init_9 : decode b_X_init 9 = .ok (.invokespecial 9, 3) := by decide +kernel
theorem d_X_init_12 : decode b_X_init 12 = .ok (.putfield 10, 3) := by decide +kernel
theorem d_X_init_15 : decode b_X_init 15 = .ok (.aload_n 0, 1) := by decide +kernel
theorem d_X_init_16 : decode b_X_init 16 = .ok (.bipush 8, 2) := by decide +kernel
theorem d_X_init_18 : decode b_X_init 18 = .ok (.newarray .int, 2) := by decide +kernel
theorem d_X_init_20 : decode b_X_init 20 = .ok (.putfield 16, 3) := by decide +kernel
theorem d_X_init_23 : decode b_X_init 23 = .ok (.aload_n 0, 1) := by decide +kernel
theorem d_X_init_24 : decode b_X_init 24 = .ok (.new 20, 3) := by decide +kernel
theorem d_X_init_27 : decode b_X_init 27 = .ok (.dup, 1) := by decide +kernel
theorem d_X_init_28 : decode b_X_init 28 = .ok (.invokespecial 22, 3) := by decide +kernel
theorem d_X_init_31 : decode b_X_init 31 = .ok (.putfield 23, 3) := by decide +kernel
theorem d_X_init_34 : decode b_X_init 34 = .ok (.aload_n 0, 1) := by decide +kernel
theorem d_X_init_35 : decode b_X_init 35 = .ok (.new 27, 3) := by decide +kernel
theorem d_X_init_38 : decode b_X_init 38 = .ok (.dup, 1) := by decide +kernel
theorem d_X_init_39 : decode b_X_init 39 = .ok (.invokespecial 29, 3) := by decide +kernel
theorem d_X_init_42 : decode b_X_init 42 = .ok (.putfield 30, 3) := by decide +kernel
theorem d_X_init_45 : decode b_X_init 45 = .ok (.aload_n 0, 1) := by decide +kernel
theorem d_X_init_46 : decode b_X_init 46 = .ok (.new 34, 3) := by decide +kernel
theorem d_X_init_49 : decode b_X_init 49 = .ok (.dup, 1) := by decide +kernel
theorem d_X_init_50 : decode b_X_init 50 = .ok (.invokespecial 36, 3) := by decide +kernel
theorem d_X_init_53 : decode b_X_init 53 = .ok (.putfield 37, 3) := by decide +kernel
theorem d_X_init_56 : decode b_X_init 56 = .ok (.aload_n 0, 1) := by decide +kernel
theorem d_X_init_57 : decode b_X_init 57 = .ok (.new 41, 3) := by decide +kernel
theorem d_X_init_60 : decode b_X_init 60 = .ok (.dup, 1) := by decide +kernel
theorem d_X_init_61 : decode b_X_init 61 = .ok (.invokespecial 43, 3) := by decide +kernel
theorem d_X_init_64 : decode b_X_init 64 = .ok (.putfield 44, 3) := by decide +kernel
theorem d_X_init_67 : decode b_X_init 67 = .ok (.aload_n 0, 1) := by decide +kernel
theorem d_X_init_68 : decode b_X_init 68 = .ok (.new 41, 3) := by decide +kernel
theorem d_X_init_71 : decode b_X_init 71 = .ok (.dup, 1) := by decide +kernel
theorem d_X_init_72 : decode b_X_init 72 = .ok (.invokespecial 43, 3) := by decide +kernel
theorem d_X_init_75 : decode b_X_init 75 = .ok (.putfield 48, 3) := by decide +kernel
theorem d_X_init_78 : decode b_X_init 78 = .ok (.aload_n 0, 1) := by decide +kernel
theorem d_X_init_79 : decode b_X_init 79 = .ok (.iconst 5, 1) := by decide +kernel
theorem d_X_init_80 : decode b_X_init 80 = .ok (.newarray .int, 2) := by decide +kernel
theorem d_X_init_82 : decode b_X_init 82 = .ok (.putfield 51, 3) := by decide +kernel
theorem d_X_init_85 : decode b_X_init 85 = .ok (.aload_n 0, 1) := by decide +kernel
theorem d_X_init_86 : decode b_X_init 86 = .ok (.bipush 8, 2) := by decide +kernel
theorem d_X_init_88 : decode b_X_init 88 = .ok (.putfield 54, 3) := by decide +kernel
theorem d_X_init_91 : decode b_X_init 91 = .ok (.return_, 1) := by decide +kernel
theorem d_Sh_init_0 : decode b_Sh_init 0 = .ok (.aload_n 0, 1) := by decide +kernel
theorem d_Sh_init_1 : decode b_Sh_init 1 = .ok (.invokespecial 3, 3) := by decide +kernel
theorem d_Sh_init_4 : decode b_Sh_init 4 = .ok (.aload_n 0, 1) := by decide +kernel
theorem d_Sh_init_5 : decode b_Sh_init 5 = .ok (.bipush 16, 2) := by decide +kernel
theorem d_Sh_init_7 : decode b_Sh_init 7 = .ok (.newarray .boolean, 2) := by decide +kernel
theorem d_Sh_init_9 : decode b_Sh_init 9 = .ok (.putfield 9, 3) := by decide +kernel
theorem d_Sh_init_12 : decode b_Sh_init 12 = .ok (.aload_n 0, 1) := by decide +kernel
theorem d_Sh_init_13 : decode b_Sh_init 13 = .ok (.bipush 16, 2) := by decide +kernel
theorem d_Sh_init_15 : decode b_Sh_init 15 = .ok (.newarray .int, 2) := by decide +kernel
theorem d_Sh_init_17 : decode b_Sh_init 17 = .ok (.putfield 15, 3) := by decide +kernel
theorem d_Sh_init_20 : decode b_Sh_init 20 = .ok (.aload_n 0, 1) := by decide +kernel
theorem d_Sh_init_21 : decode b_Sh_init 21 = .ok (.bipush 16, 2) := by decide +kernel
theorem d_Sh_init_23 : decode b_Sh_init 23 = .ok (.bipush 12, 2) := by decide +kernel
theorem d_Sh_init_25 : decode b_Sh_init 25 = .ok (.multianewarray 19 2, 4) := by decide +kernel
theorem d_Sh_init_29 : decode b_Sh_init 29 = .ok (.putfield 21, 3) := by decide +kernel
theorem d_Sh_init_32 : decode b_Sh_init 32 = .ok (.return_, 1) := by decide +kernel
theorem d_Ju_init_0 : decode b_Ju_init 0 = .ok (.aload_n 0, 1) := by decide +kernel
theorem d_Ju_init_1 : decode b_Ju_init 1 = .ok (.invokespecial 3, 3) := by decide +kernel
theorem d_Ju_init_4 : decode b_Ju_init 4 = .ok (.aload_n 0, 1) := by decide +kernel
theorem d_Ju_init_5 : decode b_Ju_init 5 = .ok (.sipush 128, 3) := by decide +kernel
theorem d_Ju_init_8 : decode b_Ju_init 8 = .ok (.newarray .int, 2) := by decide +kernel
theorem d_Ju_init_10 : decode b_Ju_init 10 = .ok (.putfield 9, 3) := by decide +kernel
theorem d_Ju_init_13 : decode b_Ju_init 13 = .ok (.aload_n 0, 1) := by decide +kernel
theorem d_Ju_init_14 : decode b_Ju_init 14 = .ok (.iconst 0, 1) := by decide +kernel
theorem d_Ju_init_15 : decode b_Ju_init 15 = .ok (.putfield 15, 3) := by decide +kernel
theorem d_Ju_init_18 : decode b_Ju_init 18 = .ok (.aload_n 0, 1) := by decide +kernel
theorem d_Ju_init_19 : decode b_Ju_init 19 = .ok (.getfield 9, 3) := by decide +kernel
theorem d_Ju_init_22 : decode b_Ju_init 22 = .ok (.iconst (-1), 1) := by decide +kernel
theorem d_Ju_init_23 : decode b_Ju_init 23 = .ok (.invokestatic 19, 3) := by decide +kernel
theorem d_Ju_init_26 : decode b_Ju_init 26 = .ok (.return_, 1) := by decide +kernel
theorem d_Arrays_fill_0 : decode b_Arrays_fill 0 = .ok (.iconst 0, 1) := by decide +kernel
theorem d_Arrays_fill_1 : decode b_Arrays_fill 1 = .ok (.istore_n 2, 1) := by decide +kernel
theorem d_Arrays_fill_2 : decode b_Arrays_fill 2 = .ok (.aload_n 0, 1) := by decide +kernel
theorem d_Arrays_fill_3 : decode b_Arrays_fill 3 = .ok (.arraylength, 1) := by decide +kernel
theorem d_Arrays_fill_4 : decode b_Arrays_fill 4 = .ok (.istore_n 3, 1) := by decide +kernel
theorem d_Arrays_fill_5 : decode b_Arrays_fill 5 = .ok (.iload_n 2, 1) := by decide +kernel
theorem d_Arrays_fill_6 : decode b_Arrays_fill 6 = .ok (.iload_n 3, 1) := by decide +kernel
theorem d_Arrays_fill_7 : decode b_Arrays_fill 7 = .ok (.if_icmp .ge 13, 3) := by decide +kernel
theorem d_Arrays_fill_10 : decode b_Arrays_fill 10 = .ok (.aload_n 0, 1) := by decide +kernel
theorem d_Arrays_fill_11 : decode b_Arrays_fill 11 = .ok (.iload_n 2, 1) := by decide +kernel
theorem d_Arrays_fill_12 : decode b_Arrays_fill 12 = .ok (.iload_n 1, 1) := by decide +kernel
theorem d_Arrays_fill_13 : decode b_Arrays_fill 13 = .ok (.iastore, 1) := by decide +kernel
theorem d_Arrays_fill_14 : decode b_Arrays_fill 14 = .ok (.iinc 2 1, 3) := by decide +kernel
theorem d_Arrays_fill_17 : decode b_Arrays_fill 17 = .ok (.goto (-12), 3) := by decide +kernel
theorem d_Arrays_fill_20 : decode b_Arrays_fill 20 = .ok (.return_, 1) := by decide +kernel
theorem d_Fo_init_0 : decode b_Fo_init 0 = .ok (.aload_n 0, 1) := by decide +kernel
theorem d_Fo_init_1 : decode b_Fo_init 1 = .ok (.invokespecial 3, 3) := by decide +kernel
theorem d_Fo_init_4 : decode b_Fo_init 4 = .ok (.aload_n 0, 1) := by decide +kernel
theorem d_Fo_init_5 : decode b_Fo_init 5 = .ok (.iconst 4, 1) := by decide +kernel
theorem d_Fo_init_6 : decode b_Fo_init 6 = .ok (.anewarray 9, 3) := by decide +kernel
theorem d_Fo_init_9 : decode b_Fo_init 9 = .ok (.putfield 11, 3) := by decide +kernel
theorem d_Fo_init_12 : decode b_Fo_init 12 = .ok (.aload_n 0, 1) := by decide +kernel
theorem d_Fo_init_13 : decode b_Fo_init 13 = .ok (.iconst 0, 1) := by decide +kernel
theorem d_Fo_init_14 : decode b_Fo_init 14 = .ok (.putfield 17, 3) := by decide +kernel
theorem d_Fo_init_17 : decode b_Fo_init 17 = .ok (.iconst 0, 1) := by decide +kernel
theorem d_Fo_init_18 : decode b_Fo_init 18 = .ok (.istore_n 1, 1) := by decide +kernel
theorem d_Fo_init_19 : decode b_Fo_init 19 = .ok (.iload_n 1, 1) := by decide +kernel
theorem d_Fo_init_20 : decode b_Fo_init 20 = .ok (.iconst 4, 1) := by decide +kernel
theorem d_Fo_init_21 : decode b_Fo_init 21 = .ok (.if_icmp .ge 22, 3) := by decide +kernel
theorem d_Fo_init_24 : decode b_Fo_init 24 = .ok (.aload_n 0, 1) := by decide +kernel
theorem d_Fo_init_25 : decode b_Fo_init 25 = .ok (.getfield 11, 3) := by decide +kernel
theorem d_Fo_init_28 : decode b_Fo_init 28 = .ok (.iload_n 1, 1) := by decide +kernel
theorem d_Fo_init_29 : decode b_Fo_init 29 = .ok (.new 9, 3) := by decide +kernel
theorem d_Fo_init_32 : decode b_Fo_init 32 = .ok (.dup, 1) := by decide +kernel
theorem d_Fo_init_33 : decode b_Fo_init 33 = .ok (.invokespecial 21, 3) := by decide +kernel
theorem d_Fo_init_36 : decode b_Fo_init 36 = .ok (.aastore, 1) := by decide +kernel
theorem d_Fo_init_37 : decode b_Fo_init 37 = .ok (.iinc 1 1, 3) := by decide +kernel
theorem d_Fo_init_40 : decode b_Fo_init 40 = .ok (.goto (-21), 3) := by decide +kernel
theorem d_Fo_init_43 : decode b_Fo_init 43 = .ok (.return_, 1) := by decide +kernel
theorem d_Tr_init_0 : decode b_Tr_init 0 = .ok (.aload_n 0, 1) := by decide +kernel
theorem d_Tr_init_1 : decode b_Tr_init 1 = .ok (.invokespecial 3, 3) := by decide +kernel
theorem d_Tr_init_4 : decode b_Tr_init 4 = .ok (.aload_n 0, 1) := by decide +kernel
theorem d_Tr_init_5 : decode b_Tr_init 5 = .ok (.bipush 7, 2) := by decide +kernel
theorem d_Tr_init_7 : decode b_Tr_init 7 = .ok (.newarray .int, 2) := by decide +kernel
theorem d_Tr_init_9 : decode b_Tr_init 9 = .ok (.putfield 9, 3) := by decide +kernel
theorem d_Tr_init_12 : decode b_Tr_init 12 = .ok (.aload_n 0, 1) := by decide +kernel
theorem d_Tr_init_13 : decode b_Tr_init 13 = .ok (.bipush 7, 2) := by decide +kernel
theorem d_Tr_init_15 : decode b_Tr_init 15 = .ok (.newarray .int, 2) := by decide +kernel
theorem d_Tr_init_17 : decode b_Tr_init 17 = .ok (.putfield 15, 3) := by decide +kernel
theorem d_Tr_init_20 : decode b_Tr_init 20 = .ok (.aload_n 0, 1) := by decide +kernel
theorem d_Tr_init_21 : decode b_Tr_init 21 = .ok (.bipush 7, 2) := by decide +kernel
theorem d_Tr_init_23 : decode b_Tr_init 23 = .ok (.newarray .long, 2) := by decide +kernel
theorem d_Tr_init_25 : decode b_Tr_init 25 = .ok (.putfield 18, 3) := by decide +kernel
theorem d_Tr_init_28 : decode b_Tr_init 28 = .ok (.return_, 1) := by decide +kernel
theorem d_Gr_init_0 : decode b_Gr_init 0 = .ok (.aload_n 0, 1) := by decide +kernel
theorem d_Gr_init_1 : decode b_Gr_init 1 = .ok (.invokespecial 3, 3) := by decide +kernel
theorem d_Gr_init_4 : decode b_Gr_init 4 = .ok (.aload_n 0, 1) := by decide +kernel
theorem d_Gr_init_5 : decode b_Gr_init 5 = .ok (.bipush 16, 2) := by decide +kernel
theorem d_Gr_init_7 : decode b_Gr_init 7 = .ok (.iconst 5, 1) := by decide +kernel
theorem d_Gr_init_8 : decode b_Gr_init 8 = .ok (.multianewarray 9 2, 4) := by decide +kernel
theorem d_Gr_init_12 : decode b_Gr_init 12 = .ok (.putfield 11, 3) := by decide +kernel
theorem d_Gr_init_15 : decode b_Gr_init 15 = .ok (.aload_n 0, 1) := by decide +kernel
theorem d_Gr_init_16 : decode b_Gr_init 16 = .ok (.bipush 16, 2) := by decide +kernel
theorem d_Gr_init_18 : decode b_Gr_init 18 = .ok (.newarray .long, 2) := by decide +kernel
theorem d_Gr_init_20 : decode b_Gr_init 20 = .ok (.putfield 16, 3) := by decide +kernel
theorem d_Gr_init_23 : decode b_Gr_init 23 = .ok (.aload_n 0, 1) := by decide +kernel
theorem d_Gr_init_24 : decode b_Gr_init 24 = .ok (.iconst 5, 1) := by decide +kernel
theorem d_Gr_init_25 : decode b_Gr_init 25 = .ok (.bipush 16, 2) := by decide +kernel
theorem d_Gr_init_27 : decode b_Gr_init 27 = .ok (.multianewarray 9 2, 4) := by decide +kernel
theorem d_Gr_init_31 : decode b_Gr_init 31 = .ok (.putfield 20, 3) := by decide +kernel
theorem d_Gr_init_34 : decode b_Gr_init 34 = .ok (.aload_n 0, 1) := by decide +kernel
theorem d_Gr_init_35 : decode b_Gr_init 35 = .ok (.iconst 0, 1) := by decide +kernel
theorem d_Gr_init_36 : decode b_Gr_init 36 = .ok (.putfield 23, 3) := by decide +kernel
theorem d_Gr_init_39 : decode b_Gr_init 39 = .ok (.aload_n 0, 1) := by decide +kernel
theorem d_Gr_init_40 : decode b_Gr_init 40 = .ok (.bipush 16, 2) := by decide +kernel
theorem d_Gr_init_42 : decode b_Gr_init 42 = .ok (.newarray .int, 2) := by decide +kernel
theorem d_Gr_init_44 : decode b_Gr_init 44 = .ok (.putfield 27, 3) := by decide +kernel
theorem d_Gr_init_47 : decode b_Gr_init 47 = .ok (.aload_n 0, 1) := by decide +kernel
theorem d_Gr_init_48 : decode b_Gr_init 48 = .ok (.iconst 1, 1) := by decide +kernel
theorem d_Gr_init_49 : decode b_Gr_init 49 = .ok (.putfield 31, 3) := by decide +kernel
theorem d_Gr_init_52 : decode b_Gr_init 52 = .ok (.aload_n 0, 1) := by decide +kernel
theorem d_Gr_init_53 : decode b_Gr_init 53 = .ok (.lconst 0, 1) := by decide +kernel
theorem d_Gr_init_54 : decode b_Gr_init 54 = .ok (.putfield 34, 3) := by decide +kernel
theorem d_Gr_init_57 : decode b_Gr_init 57 = .ok (.aload_n 0, 1) := by decide +kernel
theorem d_Gr_init_58 : decode b_Gr_init 58 = .ok (.iconst 0, 1) := by decide +kernel
theorem d_Gr_init_59 : decode b_Gr_init 59 = .ok (.putfield 38, 3) := by decide +kernel
theorem d_Gr_init_62 : decode b_Gr_init 62 = .ok (.aload_n 0, 1) := by decide +kernel
theorem d_Gr_init_63 : decode b_Gr_init 63 = .ok (.lconst 0, 1) := by decide +kernel
theorem d_Gr_init_64 : decode b_Gr_init 64 = .ok (.putfield 41, 3) := by decide +kernel
theorem d_Gr_init_67 : decode b_Gr_init 67 = .ok (.aload_n 0, 1) := by decide +kernel
theorem d_Gr_init_68 : decode b_Gr_init 68 = .ok (.iconst 0, 1) := by decide +kernel
theorem d_Gr_init_69 : decode b_Gr_init 69 = .ok (.putfield 44, 3) := by decide +kernel
theorem d_Gr_init_72 : decode b_Gr_init 72 = .ok (.aload_n 0, 1) := by decide +kernel
theorem d_Gr_init_73 : decode b_Gr_init 73 = .ok (.iconst 0, 1) := by decide +kernel
theorem d_Gr_init_74 : decode b_Gr_init 74 = .ok (.putfield 47, 3) := by decide +kernel
theorem d_Gr_init_77 : decode b_Gr_init 77 = .ok (.return_, 1) := by decide +kernel
theorem d_Ra_init_0 : decode b_Ra_init 0 = .ok (.aload_n 0, 1) := by decide +kernel
theorem d_Ra_init_1 : decode b_Ra_init 1 = .ok (.invokespecial 3, 3) := by decide +kernel
theorem d_Ra_init_4 : decode b_Ra_init 4 = .ok (.aload_n 0, 1) := by decide +kernel
theorem d_Ra_init_5 : decode b_Ra_init 5 = .ok (.bipush 16, 2) := by decide +kernel
theorem d_Ra_init_7 : decode b_Ra_init 7 = .ok (.newarray .int, 2) := by decide +kernel
theorem d_Ra_init_9 : decode b_Ra_init 9 = .ok (.putfield 9, 3) := by decide +kernel
theorem d_Ra_init_12 : decode b_Ra_init 12 = .ok (.aload_n 0, 1) := by decide +kernel
theorem d_Ra_init_13 : decode b_Ra_init 13 = .ok (.bipush 16, 2) := by decide +kernel
theorem d_Ra_init_15 : decode b_Ra_init 15 = .ok (.newarray .long, 2) := by decide +kernel
theorem d_Ra_init_17 : decode b_Ra_init 17 = .ok (.putfield 15, 3) := by decide +kernel
theorem d_Ra_init_20 : decode b_Ra_init 20 = .ok (.aload_n 0, 1) := by decide +kernel
theorem d_Ra_init_21 : decode b_Ra_init 21 = .ok (.iconst 0, 1) := by decide +kernel
theorem d_Ra_init_22 : decode b_Ra_init 22 = .ok (.putfield 19, 3) := by decide +kernel
theorem d_Ra_init_25 : decode b_Ra_init 25 = .ok (.return_, 1) := by decide +kernel
theorem d_X_document_0 : decode b_X_document 0 = .ok (.iload_n 1, 1) := by decide +kernel
theorem d_X_document_1 : decode b_X_document 1 = .ok (.bipush 15, 2) := by decide +kernel
theorem d_X_document_3 : decode b_X_document 3 = .ok (.invokestatic 58, 3) := by decide +kernel
theorem d_X_document_6 : decode b_X_document 6 = .ok (.ifCond .eq 12, 3) := by decide +kernel
theorem d_X_document_9 : decode b_X_document 9 = .ok (.iload_n 2, 1) := by decide +kernel
theorem d_X_document_10 : decode b_X_document 10 = .ok (.bipush 15, 2) := by decide +kernel
theorem d_X_document_12 : decode b_X_document 12 = .ok (.invokestatic 58, 3) := by decide +kernel
theorem d_X_document_15 : decode b_X_document 15 = .ok (.ifCond .ne 5, 3) := by decide +kernel
theorem d_X_document_18 : decode b_X_document 18 = .ok (.iconst (-1), 1) := by decide +kernel
theorem d_X_document_19 : decode b_X_document 19 = .ok (.ireturn, 1) := by decide +kernel
theorem d_X_document_20 : decode b_X_document 20 = .ok (.aload_n 0, 1) := by decide +kernel
theorem d_X_document_21 : decode b_X_document 21 = .ok (.getfield 10, 3) := by decide +kernel
theorem d_X_document_24 : decode b_X_document 24 = .ok (.iload_n 1, 1) := by decide +kernel
theorem d_X_document_25 : decode b_X_document 25 = .ok (.iload_n 2, 1) := by decide +kernel
theorem d_X_document_26 : decode b_X_document 26 = .ok (.invokevirtual 62, 3) := by decide +kernel
theorem d_X_document_29 : decode b_X_document 29 = .ok (.iconst 0, 1) := by decide +kernel
theorem d_X_document_30 : decode b_X_document 30 = .ok (.ireturn, 1) := by decide +kernel
theorem d_X_within_0 : decode b_X_within 0 = .ok (.iload_n 0, 1) := by decide +kernel
theorem d_X_within_1 : decode b_X_within 1 = .ok (.ifCond .lt 12, 3) := by decide +kernel
theorem d_X_within_4 : decode b_X_within 4 = .ok (.iload_n 0, 1) := by decide +kernel
theorem d_X_within_5 : decode b_X_within 5 = .ok (.iload_n 1, 1) := by decide +kernel
theorem d_X_within_6 : decode b_X_within 6 = .ok (.if_icmp .gt 7, 3) := by decide +kernel
theorem d_X_within_9 : decode b_X_within 9 = .ok (.iconst 1, 1) := by decide +kernel
theorem d_X_within_10 : decode b_X_within 10 = .ok (.goto 4, 3) := by decide +kernel
theorem d_X_within_13 : decode b_X_within 13 = .ok (.iconst 0, 1) := by decide +kernel
theorem d_X_within_14 : decode b_X_within 14 = .ok (.ireturn, 1) := by decide +kernel
theorem d_Sh_put_0 : decode b_Sh_put 0 = .ok (.aload_n 0, 1) := by decide +kernel
theorem d_Sh_put_1 : decode b_Sh_put 1 = .ok (.getfield 9, 3) := by decide +kernel
theorem d_Sh_put_4 : decode b_Sh_put 4 = .ok (.iload_n 1, 1) := by decide +kernel
theorem d_Sh_put_5 : decode b_Sh_put 5 = .ok (.iconst 1, 1) := by decide +kernel
theorem d_Sh_put_6 : decode b_Sh_put 6 = .ok (.bastore, 1) := by decide +kernel
theorem d_Sh_put_7 : decode b_Sh_put 7 = .ok (.aload_n 0, 1) := by decide +kernel
theorem d_Sh_put_8 : decode b_Sh_put 8 = .ok (.getfield 15, 3) := by decide +kernel
theorem d_Sh_put_11 : decode b_Sh_put 11 = .ok (.iload_n 1, 1) := by decide +kernel
theorem d_Sh_put_12 : decode b_Sh_put 12 = .ok (.iload_n 2, 1) := by decide +kernel
theorem d_Sh_put_13 : decode b_Sh_put 13 = .ok (.iastore, 1) := by decide +kernel
theorem d_Sh_put_14 : decode b_Sh_put 14 = .ok (.aload_n 0, 1) := by decide +kernel
theorem d_Sh_put_15 : decode b_Sh_put 15 = .ok (.getfield 21, 3) := by decide +kernel
theorem d_Sh_put_18 : decode b_Sh_put 18 = .ok (.iload_n 1, 1) := by decide +kernel
theorem d_Sh_put_19 : decode b_Sh_put 19 = .ok (.aaload, 1) := by decide +kernel
theorem d_Sh_put_20 : decode b_Sh_put 20 = .ok (.iconst 0, 1) := by decide +kernel
theorem d_Sh_put_21 : decode b_Sh_put 21 = .ok (.invokestatic 28, 3) := by decide +kernel
theorem d_Sh_put_24 : decode b_Sh_put 24 = .ok (.return_, 1) := by decide +kernel
theorem d_X_remove_0 : decode b_X_remove 0 = .ok (.aload_n 0, 1) := by decide +kernel
theorem d_X_remove_1 : decode b_X_remove 1 = .ok (.getfield 10, 3) := by decide +kernel
theorem d_X_remove_4 : decode b_X_remove 4 = .ok (.iload_n 1, 1) := by decide +kernel
theorem d_X_remove_5 : decode b_X_remove 5 = .ok (.invokevirtual 66, 3) := by decide +kernel
theorem d_X_remove_8 : decode b_X_remove 8 = .ok (.ifCond .ne 5, 3) := by decide +kernel
theorem d_X_remove_11 : decode b_X_remove 11 = .ok (.iconst (-1), 1) := by decide +kernel
theorem d_X_remove_12 : decode b_X_remove 12 = .ok (.ireturn, 1) := by decide +kernel
theorem d_X_remove_13 : decode b_X_remove 13 = .ok (.aload_n 0, 1) := by decide +kernel
theorem d_X_remove_14 : decode b_X_remove 14 = .ok (.getfield 10, 3) := by decide +kernel
theorem d_X_remove_17 : decode b_X_remove 17 = .ok (.iload_n 1, 1) := by decide +kernel
theorem d_X_remove_18 : decode b_X_remove 18 = .ok (.invokevirtual 70, 3) := by decide +kernel
theorem d_X_remove_21 : decode b_X_remove 21 = .ok (.iconst 0, 1) := by decide +kernel
theorem d_X_remove_22 : decode b_X_remove 22 = .ok (.ireturn, 1) := by decide +kernel
theorem d_Sh_holds_0 : decode b_Sh_holds 0 = .ok (.iload_n 1, 1) := by decide +kernel
theorem d_Sh_holds_1 : decode b_Sh_holds 1 = .ok (.bipush 15, 2) := by decide +kernel
theorem d_Sh_holds_3 : decode b_Sh_holds 3 = .ok (.invokestatic 24, 3) := by decide +kernel
theorem d_Sh_holds_6 : decode b_Sh_holds 6 = .ok (.ifCond .eq 16, 3) := by decide +kernel
theorem d_Sh_holds_9 : decode b_Sh_holds 9 = .ok (.aload_n 0, 1) := by decide +kernel
theorem d_Sh_holds_10 : decode b_Sh_holds 10 = .ok (.getfield 9, 3) := by decide +kernel
theorem d_Sh_holds_13 : decode b_Sh_holds 13 = .ok (.iload_n 1, 1) := by decide +kernel
theorem d_Sh_holds_14 : decode b_Sh_holds 14 = .ok (.baload, 1) := by decide +kernel
theorem d_Sh_holds_15 : decode b_Sh_holds 15 = .ok (.ifCond .eq 7, 3) := by decide +kernel
theorem d_Sh_holds_18 : decode b_Sh_holds 18 = .ok (.iconst 1, 1) := by decide +kernel
theorem d_Sh_holds_19 : decode b_Sh_holds 19 = .ok (.goto 4, 3) := by decide +kernel
theorem d_Sh_holds_22 : decode b_Sh_holds 22 = .ok (.iconst 0, 1) := by decide +kernel
theorem d_Sh_holds_23 : decode b_Sh_holds 23 = .ok (.ireturn, 1) := by decide +kernel
theorem d_Sh_drop_0 : decode b_Sh_drop 0 = .ok (.aload_n 0, 1) := by decide +kernel
theorem d_Sh_drop_1 : decode b_Sh_drop 1 = .ok (.getfield 9, 3) := by decide +kernel
theorem d_Sh_drop_4 : decode b_Sh_drop 4 = .ok (.iload_n 1, 1) := by decide +kernel
theorem d_Sh_drop_5 : decode b_Sh_drop 5 = .ok (.iconst 0, 1) := by decide +kernel
theorem d_Sh_drop_6 : decode b_Sh_drop 6 = .ok (.bastore, 1) := by decide +kernel
theorem d_Sh_drop_7 : decode b_Sh_drop 7 = .ok (.return_, 1) := by decide +kernel
theorem d_X_term_0 : decode b_X_term 0 = .ok (.aload_n 0, 1) := by decide +kernel
theorem d_X_term_1 : decode b_X_term 1 = .ok (.getfield 10, 3) := by decide +kernel
theorem d_X_term_4 : decode b_X_term 4 = .ok (.iload_n 1, 1) := by decide +kernel
theorem d_X_term_5 : decode b_X_term 5 = .ok (.invokevirtual 66, 3) := by decide +kernel
theorem d_X_term_8 : decode b_X_term 8 = .ok (.ifCond .eq 21, 3) := by decide +kernel
theorem d_X_term_11 : decode b_X_term 11 = .ok (.iload_n 2, 1) := by decide +kernel
theorem d_X_term_12 : decode b_X_term 12 = .ok (.bipush 11, 2) := by decide +kernel
theorem d_X_term_14 : decode b_X_term 14 = .ok (.invokestatic 58, 3) := by decide +kernel
theorem d_X_term_17 : decode b_X_term 17 = .ok (.ifCond .eq 12, 3) := by decide +kernel
theorem d_X_term_20 : decode b_X_term 20 = .ok (.iload_n 3, 1) := by decide +kernel
theorem d_X_term_21 : decode b_X_term 21 = .ok (.bipush 15, 2) := by decide +kernel
theorem d_X_term_23 : decode b_X_term 23 = .ok (.invokestatic 58, 3) := by decide +kernel
theorem d_X_term_26 : decode b_X_term 26 = .ok (.ifCond .ne 5, 3) := by decide +kernel
theorem d_X_term_29 : decode b_X_term 29 = .ok (.iconst (-1), 1) := by decide +kernel
theorem d_X_term_30 : decode b_X_term 30 = .ok (.ireturn, 1) := by decide +kernel
theorem d_X_term_31 : decode b_X_term 31 = .ok (.aload_n 0, 1) := by decide +kernel
theorem d_X_term_32 : decode b_X_term 32 = .ok (.getfield 10, 3) := by decide +kernel
theorem d_X_term_35 : decode b_X_term 35 = .ok (.iload_n 1, 1) := by decide +kernel
theorem d_X_term_36 : decode b_X_term 36 = .ok (.iload_n 2, 1) := by decide +kernel
theorem d_X_term_37 : decode b_X_term 37 = .ok (.iload_n 3, 1) := by decide +kernel
theorem d_X_term_38 : decode b_X_term 38 = .ok (.invokevirtual 74, 3) := by decide +kernel
theorem d_X_term_41 : decode b_X_term 41 = .ok (.iconst 0, 1) := by decide +kernel
theorem d_X_term_42 : decode b_X_term 42 = .ok (.ireturn, 1) := by decide +kernel
theorem d_Sh_setCount_0 : decode b_Sh_setCount 0 = .ok (.aload_n 0, 1) := by decide +kernel
theorem d_Sh_setCount_1 : decode b_Sh_setCount 1 = .ok (.getfield 21, 3) := by decide +kernel
theorem d_Sh_setCount_4 : decode b_Sh_setCount 4 = .ok (.iload_n 1, 1) := by decide +kernel
theorem d_Sh_setCount_5 : decode b_Sh_setCount 5 = .ok (.aaload, 1) := by decide +kernel
theorem d_Sh_setCount_6 : decode b_Sh_setCount 6 = .ok (.iload_n 2, 1) := by decide +kernel
theorem d_Sh_setCount_7 : decode b_Sh_setCount 7 = .ok (.iload_n 3, 1) := by decide +kernel
theorem d_Sh_setCount_8 : decode b_Sh_setCount 8 = .ok (.iastore, 1) := by decide +kernel
theorem d_Sh_setCount_9 : decode b_Sh_setCount 9 = .ok (.return_, 1) := by decide +kernel
theorem d_X_query_0 : decode b_X_query 0 = .ok (.iload_n 1, 1) := by decide +kernel
theorem d_X_query_1 : decode b_X_query 1 = .ok (.invokestatic 78, 3) := by decide +kernel
theorem d_X_query_4 : decode b_X_query 4 = .ok (.ifCond .eq 13, 3) := by decide +kernel
theorem d_X_query_7 : decode b_X_query 7 = .ok (.iload_n 2, 1) := by decide +kernel
theorem d_X_query_8 : decode b_X_query 8 = .ok (.sipush 4095, 3) := by decide +kernel
theorem d_X_query_11 : decode b_X_query 11 = .ok (.invokestatic 58, 3) := by decide +kernel
theorem d_X_query_14 : decode b_X_query 14 = .ok (.ifCond .ne 5, 3) := by decide +kernel
theorem d_X_query_17 : decode b_X_query 17 = .ok (.iconst (-1), 1) := by decide +kernel
theorem d_X_query_18 : decode b_X_query 18 = .ok (.ireturn, 1) := by decide +kernel
theorem d_X_query_19 : decode b_X_query 19 = .ok (.aload_n 0, 1) := by decide +kernel
theorem d_X_query_20 : decode b_X_query 20 = .ok (.getfield 16, 3) := by decide +kernel
theorem d_X_query_23 : decode b_X_query 23 = .ok (.iload_n 1, 1) := by decide +kernel
theorem d_X_query_24 : decode b_X_query 24 = .ok (.iload_n 2, 1) := by decide +kernel
theorem d_X_query_25 : decode b_X_query 25 = .ok (.iastore, 1) := by decide +kernel
theorem d_X_query_26 : decode b_X_query 26 = .ok (.iconst 0, 1) := by decide +kernel
theorem d_X_query_27 : decode b_X_query 27 = .ok (.ireturn, 1) := by decide +kernel
theorem d_X_isQuery_0 : decode b_X_isQuery 0 = .ok (.iload_n 0, 1) := by decide +kernel
theorem d_X_isQuery_1 : decode b_X_isQuery 1 = .ok (.bipush 7, 2) := by decide +kernel
theorem d_X_isQuery_3 : decode b_X_isQuery 3 = .ok (.invokestatic 58, 3) := by decide +kernel
theorem d_X_isQuery_6 : decode b_X_isQuery 6 = .ok (.ireturn, 1) := by decide +kernel
theorem d_X_judge_0 : decode b_X_judge 0 = .ok (.iload_n 3, 1) := by decide +kernel
theorem d_X_judge_1 : decode b_X_judge 1 = .ok (.iconst (-1), 1) := by decide +kernel
theorem d_X_judge_2 : decode b_X_judge 2 = .ok (.if_icmp .eq 12, 3) := by decide +kernel
theorem d_X_judge_5 : decode b_X_judge 5 = .ok (.iload_n 3, 1) := by decide +kernel
theorem d_X_judge_6 : decode b_X_judge 6 = .ok (.bipush 7, 2) := by decide +kernel
theorem d_X_judge_8 : decode b_X_judge 8 = .ok (.invokestatic 58, 3) := by decide +kernel
theorem d_X_judge_11 : decode b_X_judge 11 = .ok (.ifCond .eq 7, 3) := by decide +kernel
theorem d_X_judge_14 : decode b_X_judge 14 = .ok (.iconst 1, 1) := by decide +kernel
theorem d_X_judge_15 : decode b_X_judge 15 = .ok (.goto 4, 3) := by decide +kernel
theorem d_X_judge_18 : decode b_X_judge 18 = .ok (.iconst 0, 1) := by decide +kernel
theorem d_X_judge_19 : decode b_X_judge 19 = .ok (.istore 4, 2) := by decide +kernel
theorem d_X_judge_21 : decode b_X_judge 21 = .ok (.iload_n 1, 1) := by decide +kernel
theorem d_X_judge_22 : decode b_X_judge 22 = .ok (.invokestatic 78, 3) := by decide +kernel
theorem d_X_judge_25 : decode b_X_judge 25 = .ok (.ifCond .eq 17, 3) := by decide +kernel
theorem d_X_judge_28 : decode b_X_judge 28 = .ok (.iload_n 2, 1) := by decide +kernel
theorem d_X_judge_29 : decode b_X_judge 29 = .ok (.bipush 15, 2) := by decide +kernel
theorem d_X_judge_31 : decode b_X_judge 31 = .ok (.invokestatic 58, 3) := by decide +kernel
theorem d_X_judge_34 : decode b_X_judge 34 = .ok (.ifCond .eq 8, 3) := by decide +kernel
theorem d_X_judge_37 : decode b_X_judge 37 = .ok (.iload 4, 2) := by decide +kernel
theorem d_X_judge_39 : decode b_X_judge 39 = .ok (.ifCond .ne 5, 3) := by decide +kernel
theorem d_X_judge_42 : decode b_X_judge 42 = .ok (.iconst (-1), 1) := by decide +kernel
theorem d_X_judge_43 : decode b_X_judge 43 = .ok (.ireturn, 1) := by decide +kernel
theorem d_X_judge_44 : decode b_X_judge 44 = .ok (.iload_n 3, 1) := by decide +kernel
theorem d_X_judge_45 : decode b_X_judge 45 = .ok (.iconst (-1), 1) := by decide +kernel
theorem d_X_judge_46 : decode b_X_judge 46 = .ok (.if_icmp .eq 20, 3) := by decide +kernel
theorem d_X_judge_49 : decode b_X_judge 49 = .ok (.aload_n 0, 1) := by decide +kernel
theorem d_X_judge_50 : decode b_X_judge 50 = .ok (.getfield 23, 3) := by decide +kernel
theorem d_X_judge_53 : decode b_X_judge 53 = .ok (.iload_n 1, 1) := by decide +kernel
theorem d_X_judge_54 : decode b_X_judge 54 = .ok (.iload_n 2, 1) := by decide +kernel
theorem d_X_judge_55 : decode b_X_judge 55 = .ok (.invokevirtual 81, 3) := by decide +kernel
theorem d_X_judge_58 : decode b_X_judge 58 = .ok (.iconst (-1), 1) := by decide +kernel
theorem d_X_judge_59 : decode b_X_judge 59 = .ok (.if_icmp .ne 7, 3) := by decide +kernel
theorem d_X_judge_62 : decode b_X_judge 62 = .ok (.iconst 1, 1) := by decide +kernel
theorem d_X_judge_63 : decode b_X_judge 63 = .ok (.goto 4, 3) := by decide +kernel
theorem d_X_judge_66 : decode b_X_judge 66 = .ok (.iconst 0, 1) := by decide +kernel
theorem d_X_judge_67 : decode b_X_judge 67 = .ok (.istore 5, 2) := by decide +kernel
theorem d_X_judge_69 : decode b_X_judge 69 = .ok (.iload 5, 2) := by decide +kernel
theorem d_X_judge_71 : decode b_X_judge 71 = .ok (.ifCond .eq 18, 3) := by decide +kernel
theorem d_X_judge_74 : decode b_X_judge 74 = .ok (.aload_n 0, 1) := by decide +kernel
theorem d_X_judge_75 : decode b_X_judge 75 = .ok (.getfield 23, 3) := by decide +kernel
theorem d_X_judge_78 : decode b_X_judge 78 = .ok (.invokevirtual 85, 3) := by decide +kernel
theorem d_X_judge_81 : decode b_X_judge 81 = .ok (.bipush 16, 2) := by decide +kernel
theorem d_X_judge_83 : decode b_X_judge 83 = .ok (.if_icmp .lt 6, 3) := by decide +kernel
theorem d_X_judge_86 : decode b_X_judge 86 = .ok (.bipush (-2), 2) := by decide +kernel
theorem d_X_judge_88 : decode b_X_judge 88 = .ok (.ireturn, 1) := by decide +kernel
theorem d_X_judge_89 : decode b_X_judge 89 = .ok (.aload_n 0, 1) := by decide +kernel
theorem d_X_judge_90 : decode b_X_judge 90 = .ok (.getfield 23, 3) := by decide +kernel
theorem d_X_judge_93 : decode b_X_judge 93 = .ok (.iload_n 1, 1) := by decide +kernel
theorem d_X_judge_94 : decode b_X_judge 94 = .ok (.iload_n 2, 1) := by decide +kernel
theorem d_X_judge_95 : decode b_X_judge 95 = .ok (.iload_n 3, 1) := by decide +kernel
theorem d_X_judge_96 : decode b_X_judge 96 = .ok (.invokevirtual 89, 3) := by decide +kernel
theorem d_X_judge_99 : decode b_X_judge 99 = .ok (.iconst 0, 1) := by decide +kernel
theorem d_X_judge_100 : decode b_X_judge 100 = .ok (.ireturn, 1) := by decide +kernel
theorem d_Ju_gradeOf_0 : decode b_Ju_gradeOf 0 = .ok (.aload_n 0, 1) := by decide +kernel
theorem d_Ju_gradeOf_1 : decode b_Ju_gradeOf 1 = .ok (.getfield 9, 3) := by decide +kernel
theorem d_Ju_gradeOf_4 : decode b_Ju_gradeOf 4 = .ok (.iload_n 1, 1) := by decide +kernel
theorem d_Ju_gradeOf_5 : decode b_Ju_gradeOf 5 = .ok (.bipush 16, 2) := by decide +kernel
theorem d_Ju_gradeOf_7 : decode b_Ju_gradeOf 7 = .ok (.imul, 1) := by decide +kernel
theorem d_Ju_gradeOf_8 : decode b_Ju_gradeOf 8 = .ok (.iload_n 2, 1) := by decide +kernel
theorem d_Ju_gradeOf_9 : decode b_Ju_gradeOf 9 = .ok (.iadd, 1) := by decide +kernel
theorem d_Ju_gradeOf_10 : decode b_Ju_gradeOf 10 = .ok (.iaload, 1) := by decide +kernel
theorem d_Ju_gradeOf_11 : decode b_Ju_gradeOf 11 = .ok (.ireturn, 1) := by decide +kernel
theorem d_Ju_number_0 : decode b_Ju_number 0 = .ok (.aload_n 0, 1) := by decide +kernel
theorem d_Ju_number_1 : decode b_Ju_number 1 = .ok (.getfield 15, 3) := by decide +kernel
theorem d_Ju_number_4 : decode b_Ju_number 4 = .ok (.ireturn, 1) := by decide +kernel
theorem d_Ju_set_0 : decode b_Ju_set 0 = .ok (.iload_n 1, 1) := by decide +kernel
theorem d_Ju_set_1 : decode b_Ju_set 1 = .ok (.bipush 16, 2) := by decide +kernel
theorem d_Ju_set_3 : decode b_Ju_set 3 = .ok (.imul, 1) := by decide +kernel
theorem d_Ju_set_4 : decode b_Ju_set 4 = .ok (.iload_n 2, 1) := by decide +kernel
theorem d_Ju_set_5 : decode b_Ju_set 5 = .ok (.iadd, 1) := by decide +kernel
theorem d_Ju_set_6 : decode b_Ju_set 6 = .ok (.istore 4, 2) := by decide +kernel
theorem d_Ju_set_8 : decode b_Ju_set 8 = .ok (.aload_n 0, 1) := by decide +kernel
theorem d_Ju_set_9 : decode b_Ju_set 9 = .ok (.getfield 9, 3) := by decide +kernel
theorem d_Ju_set_12 : decode b_Ju_set 12 = .ok (.iload 4, 2) := by decide +kernel
theorem d_Ju_set_14 : decode b_Ju_set 14 = .ok (.iaload, 1) := by decide +kernel
theorem d_Ju_set_15 : decode b_Ju_set 15 = .ok (.iconst (-1), 1) := by decide +kernel
theorem d_Ju_set_16 : decode b_Ju_set 16 = .ok (.if_icmp .eq 13, 3) := by decide +kernel
theorem d_Ju_set_19 : decode b_Ju_set 19 = .ok (.aload_n 0, 1) := by decide +kernel
theorem d_Ju_set_20 : decode b_Ju_set 20 = .ok (.dup, 1) := by decide +kernel
theorem d_Ju_set_21 : decode b_Ju_set 21 = .ok (.getfield 15, 3) := by decide +kernel
theorem d_Ju_set_24 : decode b_Ju_set 24 = .ok (.iconst 1, 1) := by decide +kernel
theorem d_Ju_set_25 : decode b_Ju_set 25 = .ok (.isub, 1) := by decide +kernel
theorem d_Ju_set_26 : decode b_Ju_set 26 = .ok (.putfield 15, 3) := by decide +kernel
theorem d_Ju_set_29 : decode b_Ju_set 29 = .ok (.iload_n 3, 1) := by decide +kernel
theorem d_Ju_set_30 : decode b_Ju_set 30 = .ok (.iconst (-1), 1) := by decide +kernel
theorem d_Ju_set_31 : decode b_Ju_set 31 = .ok (.if_icmp .eq 13, 3) := by decide +kernel
theorem d_Ju_set_34 : decode b_Ju_set 34 = .ok (.aload_n 0, 1) := by decide +kernel
theorem d_Ju_set_35 : decode b_Ju_set 35 = .ok (.dup, 1) := by decide +kernel
theorem d_Ju_set_36 : decode b_Ju_set 36 = .ok (.getfield 15, 3) := by decide +kernel
theorem d_Ju_set_39 : decode b_Ju_set 39 = .ok (.iconst 1, 1) := by decide +kernel
theorem d_Ju_set_40 : decode b_Ju_set 40 = .ok (.iadd, 1) := by decide +kernel
theorem d_Ju_set_41 : decode b_Ju_set 41 = .ok (.putfield 15, 3) := by decide +kernel
theorem d_Ju_set_44 : decode b_Ju_set 44 = .ok (.aload_n 0, 1) := by decide +kernel
theorem d_Ju_set_45 : decode b_Ju_set 45 = .ok (.getfield 9, 3) := by decide +kernel
theorem d_Ju_set_48 : decode b_Ju_set 48 = .ok (.iload 4, 2) := by decide +kernel
theorem d_Ju_set_50 : decode b_Ju_set 50 = .ok (.iload_n 3, 1) := by decide +kernel
theorem d_Ju_set_51 : decode b_Ju_set 51 = .ok (.iastore, 1) := by decide +kernel
theorem d_Ju_set_52 : decode b_Ju_set 52 = .ok (.return_, 1) := by decide +kernel
theorem d_X_depth_0 : decode b_X_depth 0 = .ok (.iload_n 1, 1) := by decide +kernel
theorem d_X_depth_1 : decode b_X_depth 1 = .ok (.iconst 1, 1) := by decide +kernel
theorem d_X_depth_2 : decode b_X_depth 2 = .ok (.if_icmp .lt 9, 3) := by decide +kernel
theorem d_X_depth_5 : decode b_X_depth 5 = .ok (.iload_n 1, 1) := by decide +kernel
theorem d_X_depth_6 : decode b_X_depth 6 = .ok (.bipush 16, 2) := by decide +kernel
theorem d_X_depth_8 : decode b_X_depth 8 = .ok (.if_icmp .le 5, 3) := by decide +kernel
theorem d_X_depth_11 : decode b_X_depth 11 = .ok (.iconst (-1), 1) := by decide +kernel
theorem d_X_depth_12 : decode b_X_depth 12 = .ok (.ireturn, 1) := by decide +kernel
theorem d_X_depth_13 : decode b_X_depth 13 = .ok (.aload_n 0, 1) := by decide +kernel
theorem d_X_depth_14 : decode b_X_depth 14 = .ok (.iload_n 1, 1) := by decide +kernel
theorem d_X_depth_15 : decode b_X_depth 15 = .ok (.putfield 54, 3) := by decide +kernel
theorem d_X_depth_18 : decode b_X_depth 18 = .ok (.iconst 0, 1) := by decide +kernel
theorem d_X_depth_19 : decode b_X_depth 19 = .ok (.ireturn, 1) := by decide +kernel
theorem d_X_train_0 : decode b_X_train 0 = .ok (.iload_n 3, 1) := by decide +kernel
theorem d_X_train_1 : decode b_X_train 1 = .ok (.iconst 1, 1) := by decide +kernel
theorem d_X_train_2 : decode b_X_train 2 = .ok (.if_icmp .lt 13, 3) := by decide +kernel
theorem d_X_train_5 : decode b_X_train 5 = .ok (.iload_n 3, 1) := by decide +kernel
theorem d_X_train_6 : decode b_X_train 6 = .ok (.bipush 8, 2) := by decide +kernel
theorem d_X_train_8 : decode b_X_train 8 = .ok (.if_icmp .gt 7, 3) := by decide +kernel
theorem d_X_train_11 : decode b_X_train 11 = .ok (.iconst 1, 1) := by decide +kernel
theorem d_X_train_12 : decode b_X_train 12 = .ok (.goto 4, 3) := by decide +kernel
theorem d_X_train_15 : decode b_X_train 15 = .ok (.iconst 0, 1) := by decide +kernel
theorem d_X_train_16 : decode b_X_train 16 = .ok (.istore 4, 2) := by decide +kernel
theorem d_X_train_18 : decode b_X_train 18 = .ok (.iload_n 1, 1) := by decide +kernel
theorem d_X_train_19 : decode b_X_train 19 = .ok (.iconst 4, 1) := by decide +kernel
theorem d_X_train_20 : decode b_X_train 20 = .ok (.invokestatic 58, 3) := by decide +kernel
theorem d_X_train_23 : decode b_X_train 23 = .ok (.ifCond .eq 16, 3) := by decide +kernel
theorem d_X_train_26 : decode b_X_train 26 = .ok (.iload_n 2, 1) := by decide +kernel
theorem d_X_train_27 : decode b_X_train 27 = .ok (.iconst 2, 1) := by decide +kernel
theorem d_X_train_28 : decode b_X_train 28 = .ok (.invokestatic 58, 3) := by decide +kernel
theorem d_X_train_31 : decode b_X_train 31 = .ok (.ifCond .eq 8, 3) := by decide +kernel
theorem d_X_train_34 : decode b_X_train 34 = .ok (.iload 4, 2) := by decide +kernel
theorem d_X_train_36 : decode b_X_train 36 = .ok (.ifCond .ne 5, 3) := by decide +kernel
theorem d_X_train_39 : decode b_X_train 39 = .ok (.iconst (-1), 1) := by decide +kernel
theorem d_X_train_40 : decode b_X_train 40 = .ok (.ireturn, 1) := by decide +kernel
theorem d_X_train_41 : decode b_X_train 41 = .ok (.aload_n 0, 1) := by decide +kernel
theorem d_X_train_42 : decode b_X_train 42 = .ok (.getfield 30, 3) := by decide +kernel
theorem d_X_train_45 : decode b_X_train 45 = .ok (.invokevirtual 92, 3) := by decide +kernel
theorem d_X_train_48 : decode b_X_train 48 = .ok (.aload_n 0, 1) := by decide +kernel
theorem d_X_train_49 : decode b_X_train 49 = .ok (.invokevirtual 95, 3) := by decide +kernel
theorem d_X_train_52 : decode b_X_train 52 = .ok (.aload_n 0, 1) := by decide +kernel
theorem d_X_train_53 : decode b_X_train 53 = .ok (.getfield 37, 3) := by decide +kernel
theorem d_X_train_56 : decode b_X_train 56 = .ok (.invokevirtual 98, 3) := by decide +kernel
theorem d_X_train_59 : decode b_X_train 59 = .ok (.ifCond .eq 34, 3) := by decide +kernel
theorem d_X_train_62 : decode b_X_train 62 = .ok (.iconst 0, 1) := by decide +kernel
theorem d_X_train_63 : decode b_X_train 63 = .ok (.istore 5, 2) := by decide +kernel
theorem d_X_train_65 : decode b_X_train 65 = .ok (.iload 5, 2) := by decide +kernel
theorem d_X_train_67 : decode b_X_train 67 = .ok (.iload_n 1, 1) := by decide +kernel
theorem d_X_train_68 : decode b_X_train 68 = .ok (.if_icmp .ge 25, 3) := by decide +kernel
theorem d_X_train_71 : decode b_X_train 71 = .ok (.aload_n 0, 1) := by decide +kernel
theorem d_X_train_72 : decode b_X_train 72 = .ok (.getfield 37, 3) := by decide +kernel
theorem d_X_train_75 : decode b_X_train 75 = .ok (.aload_n 0, 1) := by decide +kernel
theorem d_X_train_76 : decode b_X_train 76 = .ok (.getfield 30, 3) := by decide +kernel
theorem d_X_train_79 : decode b_X_train 79 = .ok (.invokevirtual 102, 3) := by decide +kernel
theorem d_X_train_82 : decode b_X_train 82 = .ok (.iload_n 2, 1) := by decide +kernel
theorem d_X_train_83 : decode b_X_train 83 = .ok (.iload_n 3, 1) := by decide +kernel
theorem d_X_train_84 : decode b_X_train 84 = .ok (.invokevirtual 106, 3) := by decide +kernel
theorem d_X_train_87 : decode b_X_train 87 = .ok (.iinc 5 1, 3) := by decide +kernel
theorem d_X_train_90 : decode b_X_train 90 = .ok (.goto (-25), 3) := by decide +kernel
theorem d_X_train_93 : decode b_X_train 93 = .ok (.aload_n 0, 1) := by decide +kernel
theorem d_X_train_94 : decode b_X_train 94 = .ok (.getfield 30, 3) := by decide +kernel
theorem d_X_train_97 : decode b_X_train 97 = .ok (.invokevirtual 110, 3) := by decide +kernel
theorem d_X_train_100 : decode b_X_train 100 = .ok (.ireturn, 1) := by decide +kernel
theorem d_Fo_clear_0 : decode b_Fo_clear 0 = .ok (.aload_n 0, 1) := by decide +kernel
theorem d_Fo_clear_1 : decode b_Fo_clear 1 = .ok (.iconst 0, 1) := by decide +kernel
theorem d_Fo_clear_2 : decode b_Fo_clear 2 = .ok (.putfield 17, 3) := by decide +kernel
theorem d_Fo_clear_5 : decode b_Fo_clear 5 = .ok (.return_, 1) := by decide +kernel
theorem d_X_gatherSamples_0 : decode b_X_gatherSamples 0 = .ok (.aload_n 0, 1) := by decide +kernel
theorem d_X_gatherSamples_1 : decode b_X_gatherSamples 1 = .ok (.getfield 37, 3) := by decide +kernel
theorem d_X_gatherSamples_4 : decode b_X_gatherSamples 4 = .ok (.invokevirtual 189, 3) := by decide +kernel
theorem d_X_gatherSamples_7 : decode b_X_gatherSamples 7 = .ok (.iconst 0, 1) := by decide +kernel
theorem d_X_gatherSamples_8 : decode b_X_gatherSamples 8 = .ok (.istore_n 1, 1) := by decide +kernel
theorem d_X_gatherSamples_9 : decode b_X_gatherSamples 9 = .ok (.iload_n 1, 1) := by decide +kernel
theorem d_X_gatherSamples_10 : decode b_X_gatherSamples 10 = .ok (.bipush 8, 2) := by decide +kernel
theorem d_X_gatherSamples_12 : decode b_X_gatherSamples 12 = .ok (.if_icmp .ge 70, 3) := by decide +kernel
theorem d_X_gatherSamples_15 : decode b_X_gatherSamples 15 = .ok (.iconst 0, 1) := by decide +kernel
theorem d_X_gatherSamples_16 : decode b_X_gatherSamples 16 = .ok (.istore_n 2, 1) := by decide +kernel
theorem d_X_gatherSamples_17 : decode b_X_gatherSamples 17 = .ok (.iload_n 2, 1) := by decide +kernel
theorem d_X_gatherSamples_18 : decode b_X_gatherSamples 18 = .ok (.bipush 16, 2) := by decide +kernel
theorem d_X_gatherSamples_20 : decode b_X_gatherSamples 20 = .ok (.if_icmp .ge 56, 3) := by decide +kernel
theorem d_X_gatherSamples_23 : decode b_X_gatherSamples 23 = .ok (.aload_n 0, 1) := by decide +kernel
theorem d_X_gatherSamples_24 : decode b_X_gatherSamples 24 = .ok (.iload_n 1, 1) := by decide +kernel
theorem d_X_gatherSamples_25 : decode b_X_gatherSamples 25 = .ok (.iload_n 2, 1) := by decide +kernel
theorem d_X_gatherSamples_26 : decode b_X_gatherSamples 26 = .ok (.invokevirtual 186, 3) := by decide +kernel
theorem d_X_gatherSamples_29 : decode b_X_gatherSamples 29 = .ok (.ifCond .eq 41, 3) := by decide +kernel
theorem d_X_gatherSamples_32 : decode b_X_gatherSamples 32 = .ok (.aload_n 0, 1) := by decide +kernel
theorem d_X_gatherSamples_33 : decode b_X_gatherSamples 33 = .ok (.getfield 10, 3) := by decide +kernel
theorem d_X_gatherSamples_36 : decode b_X_gatherSamples 36 = .ok (.iload_n 2, 1) := by decide +kernel
theorem d_X_gatherSamples_37 : decode b_X_gatherSamples 37 = .ok (.aload_n 0, 1) := by decide +kernel
theorem d_X_gatherSamples_38 : decode b_X_gatherSamples 38 = .ok (.getfield 16, 3) := by decide +kernel
theorem d_X_gatherSamples_41 : decode b_X_gatherSamples 41 = .ok (.iload_n 1, 1) := by decide +kernel
theorem d_X_gatherSamples_42 : decode b_X_gatherSamples 42 = .ok (.iaload, 1) := by decide +kernel
theorem d_X_gatherSamples_43 : decode b_X_gatherSamples 43 = .ok (.aload_n 0, 1) := by decide +kernel
theorem d_X_gatherSamples_44 : decode b_X_gatherSamples 44 = .ok (.getfield 51, 3) := by decide +kernel
theorem d_X_gatherSamples_47 : decode b_X_gatherSamples 47 = .ok (.invokevirtual 113, 3) := by decide +kernel
theorem d_X_gatherSamples_50 : decode b_X_gatherSamples 50 = .ok (.aload_n 0, 1) := by decide +kernel
theorem d_X_gatherSamples_51 : decode b_X_gatherSamples 51 = .ok (.getfield 37, 3) := by decide +kernel
theorem d_X_gatherSamples_54 : decode b_X_gatherSamples 54 = .ok (.aload_n 0, 1) := by decide +kernel
theorem d_X_gatherSamples_55 : decode b_X_gatherSamples 55 = .ok (.getfield 51, 3) := by decide +kernel
theorem d_X_gatherSamples_58 : decode b_X_gatherSamples 58 = .ok (.aload_n 0, 1) := by decide +kernel
theorem d_X_gatherSamples_59 : decode b_X_gatherSamples 59 = .ok (.getfield 23, 3) := by decide +kernel
theorem d_X_gatherSamples_62 : decode b_X_gatherSamples 62 = .ok (.iload_n 1, 1) := by decide +kernel
theorem d_X_gatherSamples_63 : decode b_X_gatherSamples 63 = .ok (.iload_n 2, 1) := by decide +kernel
theorem d_X_gatherSamples_64 : decode b_X_gatherSamples 64 = .ok (.invokevirtual 81, 3) := by decide +kernel
theorem d_X_gatherSamples_67 : decode b_X_gatherSamples 67 = .ok (.invokevirtual 190, 3) := by decide +kernel
theorem d_X_gatherSamples_70 : decode b_X_gatherSamples 70 = .ok (.iinc 2 1, 3) := by decide +kernel
theorem d_X_gatherSamples_73 : decode b_X_gatherSamples 73 = .ok (.goto (-56), 3) := by decide +kernel
theorem d_X_gatherSamples_76 : decode b_X_gatherSamples 76 = .ok (.iinc 1 1, 3) := by decide +kernel
theorem d_X_gatherSamples_79 : decode b_X_gatherSamples 79 = .ok (.goto (-70), 3) := by decide +kernel
theorem d_X_gatherSamples_82 : decode b_X_gatherSamples 82 = .ok (.return_, 1) := by decide +kernel
theorem d_Gr_clear_0 : decode b_Gr_clear 0 = .ok (.aload_n 0, 1) := by decide +kernel
theorem d_Gr_clear_1 : decode b_Gr_clear 1 = .ok (.iconst 0, 1) := by decide +kernel
theorem d_Gr_clear_2 : decode b_Gr_clear 2 = .ok (.putfield 23, 3) := by decide +kernel
theorem d_Gr_clear_5 : decode b_Gr_clear 5 = .ok (.return_, 1) := by decide +kernel
theorem d_X_isLive_0 : decode b_X_isLive 0 = .ok (.aload_n 0, 1) := by decide +kernel
theorem d_X_isLive_1 : decode b_X_isLive 1 = .ok (.getfield 23, 3) := by decide +kernel
theorem d_X_isLive_4 : decode b_X_isLive 4 = .ok (.iload_n 1, 1) := by decide +kernel
theorem d_X_isLive_5 : decode b_X_isLive 5 = .ok (.iload_n 2, 1) := by decide +kernel
theorem d_X_isLive_6 : decode b_X_isLive 6 = .ok (.invokevirtual 81, 3) := by decide +kernel
theorem d_X_isLive_9 : decode b_X_isLive 9 = .ok (.iconst (-1), 1) := by decide +kernel
theorem d_X_isLive_10 : decode b_X_isLive 10 = .ok (.if_icmp .eq 18, 3) := by decide +kernel
theorem d_X_isLive_13 : decode b_X_isLive 13 = .ok (.aload_n 0, 1) := by decide +kernel
theorem d_X_isLive_14 : decode b_X_isLive 14 = .ok (.getfield 10, 3) := by decide +kernel
theorem d_X_isLive_17 : decode b_X_isLive 17 = .ok (.iload_n 2, 1) := by decide +kernel
theorem d_X_isLive_18 : decode b_X_isLive 18 = .ok (.invokevirtual 66, 3) := by decide +kernel
theorem d_X_isLive_21 : decode b_X_isLive 21 = .ok (.ifCond .eq 7, 3) := by decide +kernel
theorem d_X_isLive_24 : decode b_X_isLive 24 = .ok (.iconst 1, 1) := by decide +kernel
theorem d_X_isLive_25 : decode b_X_isLive 25 = .ok (.goto 4, 3) := by decide +kernel
theorem d_X_isLive_28 : decode b_X_isLive 28 = .ok (.iconst 0, 1) := by decide +kernel
theorem d_X_isLive_29 : decode b_X_isLive 29 = .ok (.ireturn, 1) := by decide +kernel
theorem d_Sh_measure_0 : decode b_Sh_measure 0 = .ok (.iconst 0, 1) := by decide +kernel
theorem d_Sh_measure_1 : decode b_Sh_measure 1 = .ok (.istore 4, 2) := by decide +kernel
theorem d_Sh_measure_3 : decode b_Sh_measure 3 = .ok (.iconst 0, 1) := by decide +kernel
theorem d_Sh_measure_4 : decode b_Sh_measure 4 = .ok (.istore 5, 2) := by decide +kernel
theorem d_Sh_measure_6 : decode b_Sh_measure 6 = .ok (.iconst 0, 1) := by decide +kernel
theorem d_Sh_measure_7 : decode b_Sh_measure 7 = .ok (.istore 6, 2) := by decide +kernel
theorem d_Sh_measure_9 : decode b_Sh_measure 9 = .ok (.iconst 0, 1) := by decide +kernel
theorem d_Sh_measure_10 : decode b_Sh_measure 10 = .ok (.istore 7, 2) := by decide +kernel
theorem d_Sh_measure_12 : decode b_Sh_measure 12 = .ok (.iload 7, 2) := by decide +kernel
theorem d_Sh_measure_14 : decode b_Sh_measure 14 = .ok (.bipush 12, 2) := by decide +kernel
theorem d_Sh_measure_16 : decode b_Sh_measure 16 = .ok (.if_icmp .ge 54, 3) := by decide +kernel
theorem d_Sh_measure_19 : decode b_Sh_measure 19 = .ok (.aload_n 0, 1) := by decide +kernel
theorem d_Sh_measure_20 : decode b_Sh_measure 20 = .ok (.getfield 21, 3) := by decide +kernel
theorem d_Sh_measure_23 : decode b_Sh_measure 23 = .ok (.iload_n 1, 1) := by decide +kernel
theorem d_Sh_measure_24 : decode b_Sh_measure 24 = .ok (.aaload, 1) := by decide +kernel
theorem d_Sh_measure_25 : decode b_Sh_measure 25 = .ok (.iload 7, 2) := by decide +kernel
theorem d_Sh_measure_27 : decode b_Sh_measure 27 = .ok (.iaload, 1) := by decide +kernel
theorem d_Sh_measure_28 : decode b_Sh_measure 28 = .ok (.istore 8, 2) := by decide +kernel
theorem d_Sh_measure_30 : decode b_Sh_measure 30 = .ok (.iload 8, 2) := by decide +kernel
theorem d_Sh_measure_32 : decode b_Sh_measure 32 = .ok (.ifCond .le 32, 3) := by decide +kernel
theorem d_Sh_measure_35 : decode b_Sh_measure 35 = .ok (.iload_n 2, 1) := by decide +kernel
theorem d_Sh_measure_36 : decode b_Sh_measure 36 = .ok (.iload 7, 2) := by decide +kernel
theorem d_Sh_measure_38 : decode b_Sh_measure 38 = .ok (.ishr, 1) := by decide +kernel
theorem d_Sh_measure_39 : decode b_Sh_measure 39 = .ok (.iconst 1, 1) := by decide +kernel
theorem d_Sh_measure_40 : decode b_Sh_measure 40 = .ok (.iand, 1) := by decide +kernel
theorem d_Sh_measure_41 : decode b_Sh_measure 41 = .ok (.iconst 1, 1) := by decide +kernel
theorem d_Sh_measure_42 : decode b_Sh_measure 42 = .ok (.if_icmp .ne 22, 3) := by decide +kernel
theorem d_Sh_measure_45 : decode b_Sh_measure 45 = .ok (.iinc 4 1, 3) := by decide +kernel
theorem d_Sh_measure_48 : decode b_Sh_measure 48 = .ok (.iload 5, 2) := by decide +kernel
theorem d_Sh_measure_50 : decode b_Sh_measure 50 = .ok (.iload 8, 2) := by decide +kernel
theorem d_Sh_measure_52 : decode b_Sh_measure 52 = .ok (.iadd, 1) := by decide +kernel
theorem d_Sh_measure_53 : decode b_Sh_measure 53 = .ok (.istore 5, 2) := by decide +kernel
theorem d_Sh_measure_55 : decode b_Sh_measure 55 = .ok (.iload 6, 2) := by decide +kernel
theorem d_Sh_measure_57 : decode b_Sh_measure 57 = .ok (.iload 8, 2) := by decide +kernel
theorem d_Sh_measure_59 : decode b_Sh_measure 59 = .ok (.invokestatic 38, 3) := by decide +kernel
theorem d_Sh_measure_62 : decode b_Sh_measure 62 = .ok (.istore 6, 2) := by decide +kernel
theorem d_Sh_measure_64 : decode b_Sh_measure 64 = .ok (.iinc 7 1, 3) := by decide +kernel
theorem d_Sh_measure_67 : decode b_Sh_measure 67 = .ok (.goto (-55), 3) := by decide +kernel
theorem d_Sh_measure_70 : decode b_Sh_measure 70 = .ok (.aload_n 3, 1) := by decide +kernel
theorem d_Sh_measure_71 : decode b_Sh_measure 71 = .ok (.iconst 0, 1) := by decide +kernel
theorem d_Sh_measure_72 : decode b_Sh_measure 72 = .ok (.iload 4, 2) := by decide +kernel
theorem d_Sh_measure_74 : decode b_Sh_measure 74 = .ok (.iastore, 1) := by decide +kernel
theorem d_Sh_measure_75 : decode b_Sh_measure 75 = .ok (.aload_n 3, 1) := by decide +kernel
theorem d_Sh_measure_76 : decode b_Sh_measure 76 = .ok (.iconst 1, 1) := by decide +kernel
theorem d_Sh_measure_77 : decode b_Sh_measure 77 = .ok (.iload 5, 2) := by decide +kernel
theorem d_Sh_measure_79 : decode b_Sh_measure 79 = .ok (.iastore, 1) := by decide +kernel
theorem d_Sh_measure_80 : decode b_Sh_measure 80 = .ok (.aload_n 3, 1) := by decide +kernel
theorem d_Sh_measure_81 : decode b_Sh_measure 81 = .ok (.iconst 2, 1) := by decide +kernel
theorem d_Sh_measure_82 : decode b_Sh_measure 82 = .ok (.aload_n 0, 1) := by decide +kernel
theorem d_Sh_measure_83 : decode b_Sh_measure 83 = .ok (.iload_n 1, 1) := by decide +kernel
theorem d_Sh_measure_84 : decode b_Sh_measure 84 = .ok (.invokevirtual 34, 3) := by decide +kernel
theorem d_Sh_measure_87 : decode b_Sh_measure 87 = .ok (.iastore, 1) := by decide +kernel
theorem d_Sh_measure_88 : decode b_Sh_measure 88 = .ok (.aload_n 3, 1) := by decide +kernel
theorem d_Sh_measure_89 : decode b_Sh_measure 89 = .ok (.iconst 3, 1) := by decide +kernel
theorem d_Sh_measure_90 : decode b_Sh_measure 90 = .ok (.aload_n 0, 1) := by decide +kernel
theorem d_Sh_measure_91 : decode b_Sh_measure 91 = .ok (.getfield 15, 3) := by decide +kernel
theorem d_Sh_measure_94 : decode b_Sh_measure 94 = .ok (.iload_n 1, 1) := by decide +kernel
theorem d_Sh_measure_95 : decode b_Sh_measure 95 = .ok (.iaload, 1) := by decide +kernel
theorem d_Sh_measure_96 : decode b_Sh_measure 96 = .ok (.iastore, 1) := by decide +kernel
theorem d_Sh_measure_97 : decode b_Sh_measure 97 = .ok (.aload_n 3, 1) := by decide +kernel
theorem d_Sh_measure_98 : decode b_Sh_measure 98 = .ok (.iconst 4, 1) := by decide +kernel
theorem d_Sh_measure_99 : decode b_Sh_measure 99 = .ok (.iload 6, 2) := by decide +kernel
theorem d_Sh_measure_101 : decode b_Sh_measure 101 = .ok (.iastore, 1) := by decide +kernel
theorem d_Sh_measure_102 : decode b_Sh_measure 102 = .ok (.return_, 1) := by decide +kernel
theorem d_Math_max_0 : decode b_Math_max 0 = .ok (.iload_n 0, 1) := by decide +kernel
theorem d_Math_max_1 : decode b_Math_max 1 = .ok (.iload_n 1, 1) := by decide +kernel
theorem d_Math_max_2 : decode b_Math_max 2 = .ok (.if_icmp .lt 7, 3) := by decide +kernel
theorem d_Math_max_5 : decode b_Math_max 5 = .ok (.iload_n 0, 1) := by decide +kernel
theorem d_Math_max_6 : decode b_Math_max 6 = .ok (.goto 4, 3) := by decide +kernel
theorem d_Math_max_9 : decode b_Math_max 9 = .ok (.iload_n 1, 1) := by decide +kernel
theorem d_Math_max_10 : decode b_Math_max 10 = .ok (.ireturn, 1) := by decide +kernel
theorem d_Sh_sizeOf_0 : decode b_Sh_sizeOf 0 = .ok (.iconst 0, 1) := by decide +kernel
theorem d_Sh_sizeOf_1 : decode b_Sh_sizeOf 1 = .ok (.istore_n 2, 1) := by decide +kernel
theorem d_Sh_sizeOf_2 : decode b_Sh_sizeOf 2 = .ok (.iconst 0, 1) := by decide +kernel
theorem d_Sh_sizeOf_3 : decode b_Sh_sizeOf 3 = .ok (.istore_n 3, 1) := by decide +kernel
theorem d_Sh_sizeOf_4 : decode b_Sh_sizeOf 4 = .ok (.iload_n 3, 1) := by decide +kernel
theorem d_Sh_sizeOf_5 : decode b_Sh_sizeOf 5 = .ok (.bipush 12, 2) := by decide +kernel
theorem d_Sh_sizeOf_7 : decode b_Sh_sizeOf 7 = .ok (.if_icmp .ge 20, 3) := by decide +kernel
theorem d_Sh_sizeOf_10 : decode b_Sh_sizeOf 10 = .ok (.iload_n 2, 1) := by decide +kernel
theorem d_Sh_sizeOf_11 : decode b_Sh_sizeOf 11 = .ok (.aload_n 0, 1) := by decide +kernel
theorem d_Sh_sizeOf_12 : decode b_Sh_sizeOf 12 = .ok (.getfield 21, 3) := by decide +kernel
theorem d_Sh_sizeOf_15 : decode b_Sh_sizeOf 15 = .ok (.iload_n 1, 1) := by decide +kernel
theorem d_Sh_sizeOf_16 : decode b_Sh_sizeOf 16 = .ok (.aaload, 1) := by decide +kernel
theorem d_Sh_sizeOf_17 : decode b_Sh_sizeOf 17 = .ok (.iload_n 3, 1) := by decide +kernel
theorem d_Sh_sizeOf_18 : decode b_Sh_sizeOf 18 = .ok (.iaload, 1) := by decide +kernel
theorem d_Sh_sizeOf_19 : decode b_Sh_sizeOf 19 = .ok (.iadd, 1) := by decide +kernel
theorem d_Sh_sizeOf_20 : decode b_Sh_sizeOf 20 = .ok (.istore_n 2, 1) := by decide +kernel
theorem d_Sh_sizeOf_21 : decode b_Sh_sizeOf 21 = .ok (.iinc 3 1, 3) := by decide +kernel
theorem d_Sh_sizeOf_24 : decode b_Sh_sizeOf 24 = .ok (.goto (-20), 3) := by decide +kernel
theorem d_Sh_sizeOf_27 : decode b_Sh_sizeOf 27 = .ok (.iload_n 2, 1) := by decide +kernel
theorem d_Sh_sizeOf_28 : decode b_Sh_sizeOf 28 = .ok (.ireturn, 1) := by decide +kernel
theorem d_Gr_addSample_0 : decode b_Gr_addSample 0 = .ok (.aload_n 0, 1) := by decide +kernel
theorem d_Gr_addSample_1 : decode b_Gr_addSample 1 = .ok (.getfield 23, 3) := by decide +kernel
theorem d_Gr_addSample_4 : decode b_Gr_addSample 4 = .ok (.bipush 16, 2) := by decide +kernel
theorem d_Gr_addSample_6 : decode b_Gr_addSample 6 = .ok (.if_icmp .lt 4, 3) := by decide +kernel
theorem d_Gr_addSample_9 : decode b_Gr_addSample 9 = .ok (.return_, 1) := by decide +kernel
theorem d_Gr_addSample_10 : decode b_Gr_addSample 10 = .ok (.iconst 0, 1) := by decide +kernel
theorem d_Gr_addSample_11 : decode b_Gr_addSample 11 = .ok (.istore_n 3, 1) := by decide +kernel
theorem d_Gr_addSample_12 : decode b_Gr_addSample 12 = .ok (.iload_n 3, 1) := by decide +kernel
theorem d_Gr_addSample_13 : decode b_Gr_addSample 13 = .ok (.iconst 5, 1) := by decide +kernel
theorem d_Gr_addSample_14 : decode b_Gr_addSample 14 = .ok (.if_icmp .ge 32, 3) := by decide +kernel
theorem d_Gr_addSample_17 : decode b_Gr_addSample 17 = .ok (.aload_n 0, 1) := by decide +kernel
theorem d_Gr_addSample_18 : decode b_Gr_addSample 18 = .ok (.getfield 11, 3) := by decide +kernel
theorem d_Gr_addSample_21 : decode b_Gr_addSample 21 = .ok (.aload_n 0, 1) := by decide +kernel
theorem d_Gr_addSample_22 : decode b_Gr_addSample 22 = .ok (.getfield 23, 3) := by decide +kernel
theorem d_Gr_addSample_25 : decode b_Gr_addSample 25 = .ok (.aaload, 1) := by decide +kernel
theorem d_Gr_addSample_26 : decode b_Gr_addSample 26 = .ok (.iload_n 3, 1) := by decide +kernel
theorem d_Gr_addSample_27 : decode b_Gr_addSample 27 = .ok (.aload_n 1, 1) := by decide +kernel
theorem d_Gr_addSample_28 : decode b_Gr_addSample 28 = .ok (.iload_n 3, 1) := by decide +kernel
theorem d_Gr_addSample_29 : decode b_Gr_addSample 29 = .ok (.iaload, 1) := by decide +kernel
theorem d_Gr_addSample_30 : decode b_Gr_addSample 30 = .ok (.iastore, 1) := by decide +kernel
theorem d_Gr_addSample_31 : decode b_Gr_addSample 31 = .ok (.aload_n 0, 1) := by decide +kernel
theorem d_Gr_addSample_32 : decode b_Gr_addSample 32 = .ok (.iload_n 3, 1) := by decide +kernel
theorem d_Gr_addSample_33 : decode b_Gr_addSample 33 = .ok (.aload_n 0, 1) := by decide +kernel
theorem d_Gr_addSample_34 : decode b_Gr_addSample 34 = .ok (.getfield 23, 3) := by decide +kernel
theorem d_Gr_addSample_37 : decode b_Gr_addSample 37 = .ok (.invokevirtual 50, 3) := by decide +kernel
theorem d_Gr_addSample_40 : decode b_Gr_addSample 40 = .ok (.iinc 3 1, 3) := by decide +kernel
theorem d_Gr_addSample_43 : decode b_Gr_addSample 43 = .ok (.goto (-31), 3) := by decide +kernel
theorem d_Gr_addSample_46 : decode b_Gr_addSample 46 = .ok (.aload_n 0, 1) := by decide +kernel
theorem d_Gr_addSample_47 : decode b_Gr_addSample 47 = .ok (.getfield 16, 3) := by decide +kernel
theorem d_Gr_addSample_50 : decode b_Gr_addSample 50 = .ok (.aload_n 0, 1) := by decide +kernel
theorem d_Gr_addSample_51 : decode b_Gr_addSample 51 = .ok (.getfield 23, 3) := by decide +kernel
theorem d_Gr_addSample_54 : decode b_Gr_addSample 54 = .ok (.ldc2_w 54, 3) := by decide +kernel
theorem d_Gr_addSample_57 : decode b_Gr_addSample 57 = .ok (.iload_n 2, 1) := by decide +kernel
theorem d_Gr_addSample_58 : decode b_Gr_addSample 58 = .ok (.i2l, 1) := by decide +kernel
theorem d_Gr_addSample_59 : decode b_Gr_addSample 59 = .ok (.lmul, 1) := by decide +kernel
theorem d_Gr_addSample_60 : decode b_Gr_addSample 60 = .ok (.lastore, 1) := by decide +kernel
theorem d_Gr_addSample_61 : decode b_Gr_addSample 61 = .ok (.aload_n 0, 1) := by decide +kernel
theorem d_Gr_addSample_62 : decode b_Gr_addSample 62 = .ok (.dup, 1) := by decide +kernel
theorem d_Gr_addSample_63 : decode b_Gr_addSample 63 = .ok (.getfield 23, 3) := by decide +kernel
theorem d_Gr_addSample_66 : decode b_Gr_addSample 66 = .ok (.iconst 1, 1) := by decide +kernel
theorem d_Gr_addSample_67 : decode b_Gr_addSample 67 = .ok (.iadd, 1) := by decide +kernel
theorem d_Gr_addSample_68 : decode b_Gr_addSample 68 = .ok (.putfield 23, 3) := by decide +kernel
theorem d_Gr_addSample_71 : decode b_Gr_addSample 71 = .ok (.return_, 1) := by decide +kernel
theorem d_Gr_insertInOrder_0 : decode b_Gr_insertInOrder 0 = .ok (.aload_n 0, 1) := by decide +kernel
theorem d_Gr_insertInOrder_1 : decode b_Gr_insertInOrder 1 = .ok (.getfield 20, 3) := by decide +kernel
theorem d_Gr_insertInOrder_4 : decode b_Gr_insertInOrder 4 = .ok (.iload_n 1, 1) := by decide +kernel
theorem d_Gr_insertInOrder_5 : decode b_Gr_insertInOrder 5 = .ok (.aaload, 1) := by decide +kernel
theorem d_Gr_insertInOrder_6 : decode b_Gr_insertInOrder 6 = .ok (.astore_n 3, 1) := by decide +kernel
theorem d_Gr_insertInOrder_7 : decode b_Gr_insertInOrder 7 = .ok (.aload_n 0, 1) := by decide +kernel
theorem d_Gr_insertInOrder_8 : decode b_Gr_insertInOrder 8 = .ok (.getfield 23, 3) := by decide +kernel
theorem d_Gr_insertInOrder_11 : decode b_Gr_insertInOrder 11 = .ok (.istore 4, 2) := by decide +kernel
theorem d_Gr_insertInOrder_13 : decode b_Gr_insertInOrder 13 = .ok (.iload 4, 2) := by decide +kernel
theorem d_Gr_insertInOrder_15 : decode b_Gr_insertInOrder 15 = .ok (.ifCond .le 43, 3) := by decide +kernel
theorem d_Gr_insertInOrder_18 : decode b_Gr_insertInOrder 18 = .ok (.aload_n 0, 1) := by decide +kernel
theorem d_Gr_insertInOrder_19 : decode b_Gr_insertInOrder 19 = .ok (.getfield 11, 3) := by decide +kernel
theorem d_Gr_insertInOrder_22 : decode b_Gr_insertInOrder 22 = .ok (.aload_n 3, 1) := by decide +kernel
theorem d_Gr_insertInOrder_23 : decode b_Gr_insertInOrder 23 = .ok (.iload 4, 2) := by decide +kernel
theorem d_Gr_insertInOrder_25 : decode b_Gr_insertInOrder 25 = .ok (.iconst 1, 1) := by decide +kernel
theorem d_Gr_insertInOrder_26 : decode b_Gr_insertInOrder 26 = .ok (.isub, 1) := by decide +kernel
theorem d_Gr_insertInOrder_27 : decode b_Gr_insertInOrder 27 = .ok (.iaload, 1) := by decide +kernel
theorem d_Gr_insertInOrder_28 : decode b_Gr_insertInOrder 28 = .ok (.aaload, 1) := by decide +kernel
theorem d_Gr_insertInOrder_29 : decode b_Gr_insertInOrder 29 = .ok (.iload_n 1, 1) := by decide +kernel
theorem d_Gr_insertInOrder_30 : decode b_Gr_insertInOrder 30 = .ok (.iaload, 1) := by decide +kernel
theorem d_Gr_insertInOrder_31 : decode b_Gr_insertInOrder 31 = .ok (.aload_n 0, 1) := by decide +kernel
theorem d_Gr_insertInOrder_32 : decode b_Gr_insertInOrder 32 = .ok (.getfield 11, 3) := by decide +kernel
theorem d_Gr_insertInOrder_35 : decode b_Gr_insertInOrder 35 = .ok (.iload_n 2, 1) := by decide +kernel
theorem d_Gr_insertInOrder_36 : decode b_Gr_insertInOrder 36 = .ok (.aaload, 1) := by decide +kernel
theorem d_Gr_insertInOrder_37 : decode b_Gr_insertInOrder 37 = .ok (.iload_n 1, 1) := by decide +kernel
theorem d_Gr_insertInOrder_38 : decode b_Gr_insertInOrder 38 = .ok (.iaload, 1) := by decide +kernel
theorem d_Gr_insertInOrder_39 : decode b_Gr_insertInOrder 39 = .ok (.if_icmp .le 19, 3) := by decide +kernel
theorem d_Gr_insertInOrder_42 : decode b_Gr_insertInOrder 42 = .ok (.aload_n 3, 1) := by decide +kernel
theorem d_Gr_insertInOrder_43 : decode b_Gr_insertInOrder 43 = .ok (.iload 4, 2) := by decide +kernel
theorem d_Gr_insertInOrder_45 : decode b_Gr_insertInOrder 45 = .ok (.aload_n 3, 1) := by decide +kernel
theorem d_Gr_insertInOrder_46 : decode b_Gr_insertInOrder 46 = .ok (.iload 4, 2) := by decide +kernel
theorem d_Gr_insertInOrder_48 : decode b_Gr_insertInOrder 48 = .ok (.iconst 1, 1) := by decide +kernel
theorem d_Gr_insertInOrder_49 : decode b_Gr_insertInOrder 49 = .ok (.isub, 1) := by decide +kernel
theorem d_Gr_insertInOrder_50 : decode b_Gr_insertInOrder 50 = .ok (.iaload, 1) := by decide +kernel
theorem d_Gr_insertInOrder_51 : decode b_Gr_insertInOrder 51 = .ok (.iastore, 1) := by decide +kernel
theorem d_Gr_insertInOrder_52 : decode b_Gr_insertInOrder 52 = .ok (.iinc 4 (-1), 3) := by decide +kernel
theorem d_Gr_insertInOrder_55 : decode b_Gr_insertInOrder 55 = .ok (.goto (-42), 3) := by decide +kernel
theorem d_Gr_insertInOrder_58 : decode b_Gr_insertInOrder 58 = .ok (.aload_n 3, 1) := by decide +kernel
theorem d_Gr_insertInOrder_59 : decode b_Gr_insertInOrder 59 = .ok (.iload 4, 2) := by decide +kernel
theorem d_Gr_insertInOrder_61 : decode b_Gr_insertInOrder 61 = .ok (.iload_n 2, 1) := by decide +kernel
theorem d_Gr_insertInOrder_62 : decode b_Gr_insertInOrder 62 = .ok (.iastore, 1) := by decide +kernel
theorem d_Gr_insertInOrder_63 : decode b_Gr_insertInOrder 63 = .ok (.return_, 1) := by decide +kernel
theorem d_Gr_hasSamples_0 : decode b_Gr_hasSamples 0 = .ok (.aload_n 0, 1) := by decide +kernel
theorem d_Gr_hasSamples_1 : decode b_Gr_hasSamples 1 = .ok (.getfield 23, 3) := by decide +kernel
theorem d_Gr_hasSamples_4 : decode b_Gr_hasSamples 4 = .ok (.ifCond .le 7, 3) := by decide +kernel
theorem d_Gr_hasSamples_7 : decode b_Gr_hasSamples 7 = .ok (.iconst 1, 1) := by decide +kernel
theorem d_Gr_hasSamples_8 : decode b_Gr_hasSamples 8 = .ok (.goto 4, 3) := by decide +kernel
theorem d_Gr_hasSamples_11 : decode b_Gr_hasSamples 11 = .ok (.iconst 0, 1) := by decide +kernel
theorem d_Gr_hasSamples_12 : decode b_Gr_hasSamples 12 = .ok (.ireturn, 1) := by decide +kernel
theorem d_Fo_nextTree_0 : decode b_Fo_nextTree 0 = .ok (.aload_n 0, 1) := by decide +kernel
theorem d_Fo_nextTree_1 : decode b_Fo_nextTree 1 = .ok (.getfield 11, 3) := by decide +kernel
theorem d_Fo_nextTree_4 : decode b_Fo_nextTree 4 = .ok (.aload_n 0, 1) := by decide +kernel
theorem d_Fo_nextTree_5 : decode b_Fo_nextTree 5 = .ok (.getfield 17, 3) := by decide +kernel
theorem d_Fo_nextTree_8 : decode b_Fo_nextTree 8 = .ok (.iconst 3, 1) := by decide +kernel
theorem d_Fo_nextTree_9 : decode b_Fo_nextTree 9 = .ok (.invokestatic 22, 3) := by decide +kernel
theorem d_Fo_nextTree_12 : decode b_Fo_nextTree 12 = .ok (.aaload, 1) := by decide +kernel
theorem d_Fo_nextTree_13 : decode b_Fo_nextTree 13 = .ok (.astore_n 1, 1) := by decide +kernel
theorem d_Fo_nextTree_14 : decode b_Fo_nextTree 14 = .ok (.aload_n 0, 1) := by decide +kernel
theorem d_Fo_nextTree_15 : decode b_Fo_nextTree 15 = .ok (.aload_n 0, 1) := by decide +kernel
theorem d_Fo_nextTree_16 : decode b_Fo_nextTree 16 = .ok (.getfield 17, 3) := by decide +kernel
theorem d_Fo_nextTree_19 : decode b_Fo_nextTree 19 = .ok (.iconst 1, 1) := by decide +kernel
theorem d_Fo_nextTree_20 : decode b_Fo_nextTree 20 = .ok (.iadd, 1) := by decide +kernel
theorem d_Fo_nextTree_21 : decode b_Fo_nextTree 21 = .ok (.iconst 4, 1) := by decide +kernel
theorem d_Fo_nextTree_22 : decode b_Fo_nextTree 22 = .ok (.invokestatic 22, 3) := by decide +kernel
theorem d_Fo_nextTree_25 : decode b_Fo_nextTree 25 = .ok (.putfield 17, 3) := by decide +kernel
theorem d_Fo_nextTree_28 : decode b_Fo_nextTree 28 = .ok (.aload_n 1, 1) := by decide +kernel
theorem d_Fo_nextTree_29 : decode b_Fo_nextTree 29 = .ok (.invokevirtual 28, 3) := by decide +kernel
theorem d_Fo_nextTree_32 : decode b_Fo_nextTree 32 = .ok (.aload_n 1, 1) := by decide +kernel
theorem d_Fo_nextTree_33 : decode b_Fo_nextTree 33 = .ok (.areturn, 1) := by decide +kernel
theorem d_Math_min_0 : decode b_Math_min 0 = .ok (.iload_n 0, 1) := by decide +kernel
theorem d_Math_min_1 : decode b_Math_min 1 = .ok (.iload_n 1, 1) := by decide +kernel
theorem d_Math_min_2 : decode b_Math_min 2 = .ok (.if_icmp .gt 7, 3) := by decide +kernel
theorem d_Math_min_5 : decode b_Math_min 5 = .ok (.iload_n 0, 1) := by decide +kernel
theorem d_Math_min_6 : decode b_Math_min 6 = .ok (.goto 4, 3) := by decide +kernel
theorem d_Math_min_9 : decode b_Math_min 9 = .ok (.iload_n 1, 1) := by decide +kernel
theorem d_Math_min_10 : decode b_Math_min 10 = .ok (.ireturn, 1) := by decide +kernel
theorem d_Tr_clear_0 : decode b_Tr_clear 0 = .ok (.aload_n 0, 1) := by decide +kernel
theorem d_Tr_clear_1 : decode b_Tr_clear 1 = .ok (.getfield 9, 3) := by decide +kernel
theorem d_Tr_clear_4 : decode b_Tr_clear 4 = .ok (.bipush (-2), 2) := by decide +kernel
theorem d_Tr_clear_6 : decode b_Tr_clear 6 = .ok (.invokestatic 22, 3) := by decide +kernel
theorem d_Tr_clear_9 : decode b_Tr_clear 9 = .ok (.return_, 1) := by decide +kernel
theorem d_Gr_grow_0 : decode b_Gr_grow 0 = .ok (.aload_n 0, 1) := by decide +kernel
theorem d_Gr_grow_1 : decode b_Gr_grow 1 = .ok (.iload_n 3, 1) := by decide +kernel
theorem d_Gr_grow_2 : decode b_Gr_grow 2 = .ok (.putfield 31, 3) := by decide +kernel
theorem d_Gr_grow_5 : decode b_Gr_grow 5 = .ok (.aload_n 0, 1) := by decide +kernel
theorem d_Gr_grow_6 : decode b_Gr_grow 6 = .ok (.getfield 27, 3) := by decide +kernel
theorem d_Gr_grow_9 : decode b_Gr_grow 9 = .ok (.iconst 0, 1) := by decide +kernel
theorem d_Gr_grow_10 : decode b_Gr_grow 10 = .ok (.invokestatic 56, 3) := by decide +kernel
theorem d_Gr_grow_13 : decode b_Gr_grow 13 = .ok (.iconst 1, 1) := by decide +kernel
theorem d_Gr_grow_14 : decode b_Gr_grow 14 = .ok (.iload_n 2, 1) := by decide +kernel
theorem d_Gr_grow_15 : decode b_Gr_grow 15 = .ok (.ishl, 1) := by decide +kernel
theorem d_Gr_grow_16 : decode b_Gr_grow 16 = .ok (.iconst 1, 1) := by decide +kernel
theorem d_Gr_grow_17 : decode b_Gr_grow 17 = .ok (.isub, 1) := by decide +kernel
theorem d_Gr_grow_18 : decode b_Gr_grow 18 = .ok (.istore 4, 2) := by decide +kernel
theorem d_Gr_grow_20 : decode b_Gr_grow 20 = .ok (.iconst 0, 1) := by decide +kernel
theorem d_Gr_grow_21 : decode b_Gr_grow 21 = .ok (.istore 5, 2) := by decide +kernel
theorem d_Gr_grow_23 : decode b_Gr_grow 23 = .ok (.iload 5, 2) := by decide +kernel
theorem d_Gr_grow_25 : decode b_Gr_grow 25 = .ok (.bipush 7, 2) := by decide +kernel
theorem d_Gr_grow_27 : decode b_Gr_grow 27 = .ok (.if_icmp .ge 81, 3) := by decide +kernel
theorem d_Gr_grow_30 : decode b_Gr_grow 30 = .ok (.aload_n 0, 1) := by decide +kernel
theorem d_Gr_grow_31 : decode b_Gr_grow 31 = .ok (.iload 5, 2) := by decide +kernel
theorem d_Gr_grow_33 : decode b_Gr_grow 33 = .ok (.invokevirtual 62, 3) := by decide +kernel
theorem d_Gr_grow_36 : decode b_Gr_grow 36 = .ok (.aload_n 0, 1) := by decide +kernel
theorem d_Gr_grow_37 : decode b_Gr_grow 37 = .ok (.getfield 38, 3) := by decide +kernel
theorem d_Gr_grow_40 : decode b_Gr_grow 40 = .ok (.ifCond .le 62, 3) := by decide +kernel
theorem d_Gr_grow_43 : decode b_Gr_grow 43 = .ok (.iload 5, 2) := by decide +kernel
theorem d_Gr_grow_45 : decode b_Gr_grow 45 = .ok (.iload 4, 2) := by decide +kernel
theorem d_Gr_grow_47 : decode b_Gr_grow 47 = .ok (.if_icmp .ge 36, 3) := by decide +kernel
theorem d_Gr_grow_50 : decode b_Gr_grow 50 = .ok (.aload_n 0, 1) := by decide +kernel
theorem d_Gr_grow_51 : decode b_Gr_grow 51 = .ok (.iload 5, 2) := by decide +kernel
theorem d_Gr_grow_53 : decode b_Gr_grow 53 = .ok (.invokevirtual 66, 3) := by decide +kernel
theorem d_Gr_grow_56 : decode b_Gr_grow 56 = .ok (.ifCond .eq 27, 3) := by decide +kernel
theorem d_Gr_grow_59 : decode b_Gr_grow 59 = .ok (.aload_n 1, 1) := by decide +kernel
theorem d_Gr_grow_60 : decode b_Gr_grow 60 = .ok (.iload 5, 2) := by decide +kernel
theorem d_Gr_grow_62 : decode b_Gr_grow 62 = .ok (.aload_n 0, 1) := by decide +kernel
theorem d_Gr_grow_63 : decode b_Gr_grow 63 = .ok (.getfield 44, 3) := by decide +kernel
theorem d_Gr_grow_66 : decode b_Gr_grow 66 = .ok (.aload_n 0, 1) := by decide +kernel
theorem d_Gr_grow_67 : decode b_Gr_grow 67 = .ok (.getfield 47, 3) := by decide +kernel
theorem d_Gr_grow_70 : decode b_Gr_grow 70 = .ok (.invokevirtual 70, 3) := by decide +kernel
theorem d_Gr_grow_73 : decode b_Gr_grow 73 = .ok (.aload_n 0, 1) := by decide +kernel
theorem d_Gr_grow_74 : decode b_Gr_grow 74 = .ok (.aload_n 1, 1) := by decide +kernel
theorem d_Gr_grow_75 : decode b_Gr_grow 75 = .ok (.iload 5, 2) := by decide +kernel
theorem d_Gr_grow_77 : decode b_Gr_grow 77 = .ok (.invokevirtual 76, 3) := by decide +kernel
theorem d_Gr_grow_80 : decode b_Gr_grow 80 = .ok (.goto 22, 3) := by decide +kernel
theorem d_Gr_grow_83 : decode b_Gr_grow 83 = .ok (.aload_n 1, 1) := by decide +kernel
theorem d_Gr_grow_84 : decode b_Gr_grow 84 = .ok (.iload 5, 2) := by decide +kernel
theorem d_Gr_grow_86 : decode b_Gr_grow 86 = .ok (.aload_n 0, 1) := by decide +kernel
theorem d_Gr_grow_87 : decode b_Gr_grow 87 = .ok (.getfield 34, 3) := by decide +kernel
theorem d_Gr_grow_90 : decode b_Gr_grow 90 = .ok (.aload_n 0, 1) := by decide +kernel
theorem d_Gr_grow_91 : decode b_Gr_grow 91 = .ok (.getfield 38, 3) := by decide +kernel
theorem d_Gr_grow_94 : decode b_Gr_grow 94 = .ok (.invokestatic 80, 3) := by decide +kernel
theorem d_Gr_grow_97 : decode b_Gr_grow 97 = .ok (.i2l, 1) := by decide +kernel
theorem d_Gr_grow_98 : decode b_Gr_grow 98 = .ok (.ldiv, 1) := by decide +kernel
theorem d_Gr_grow_99 : decode b_Gr_grow 99 = .ok (.invokevirtual 84, 3) := by decide +kernel
theorem d_Gr_grow_102 : decode b_Gr_grow 102 = .ok (.iinc 5 1, 3) := by decide +kernel
theorem d_Gr_grow_105 : decode b_Gr_grow 105 = .ok (.goto (-82), 3) := by decide +kernel
theorem d_Gr_grow_108 : decode b_Gr_grow 108 = .ok (.iconst 0, 1) := by decide +kernel
theorem d_Gr_grow_109 : decode b_Gr_grow 109 = .ok (.istore 5, 2) := by decide +kernel
theorem d_Gr_grow_111 : decode b_Gr_grow 111 = .ok (.iload 5, 2) := by decide +kernel
theorem d_Gr_grow_113 : decode b_Gr_grow 113 = .ok (.aload_n 0, 1) := by decide +kernel
theorem d_Gr_grow_114 : decode b_Gr_grow 114 = .ok (.getfield 23, 3) := by decide +kernel
theorem d_Gr_grow_117 : decode b_Gr_grow 117 = .ok (.if_icmp .ge 30, 3) := by decide +kernel
theorem d_Gr_grow_120 : decode b_Gr_grow 120 = .ok (.aload_n 0, 1) := by decide +kernel
theorem d_Gr_grow_121 : decode b_Gr_grow 121 = .ok (.getfield 16, 3) := by decide +kernel
theorem d_Gr_grow_124 : decode b_Gr_grow 124 = .ok (.iload 5, 2) := by decide +kernel
theorem d_Gr_grow_126 : decode b_Gr_grow 126 = .ok (.dup2, 1) := by decide +kernel
theorem d_Gr_grow_127 : decode b_Gr_grow 127 = .ok (.laload, 1) := by decide +kernel
theorem d_Gr_grow_128 : decode b_Gr_grow 128 = .ok (.aload_n 1, 1) := by decide +kernel
theorem d_Gr_grow_129 : decode b_Gr_grow 129 = .ok (.aload_n 0, 1) := by decide +kernel
theorem d_Gr_grow_130 : decode b_Gr_grow 130 = .ok (.getfield 11, 3) := by decide +kernel
theorem d_Gr_grow_133 : decode b_Gr_grow 133 = .ok (.iload 5, 2) := by decide +kernel
theorem d_Gr_grow_135 : decode b_Gr_grow 135 = .ok (.aaload, 1) := by decide +kernel
theorem d_Gr_grow_136 : decode b_Gr_grow 136 = .ok (.invokevirtual 88, 3) := by decide +kernel
theorem d_Gr_grow_139 : decode b_Gr_grow 139 = .ok (.lsub, 1) := by decide +kernel
theorem d_Gr_grow_140 : decode b_Gr_grow 140 = .ok (.lastore, 1) := by decide +kernel
theorem d_Gr_grow_141 : decode b_Gr_grow 141 = .ok (.iinc 5 1, 3) := by decide +kernel
theorem d_Gr_grow_144 : decode b_Gr_grow 144 = .ok (.goto (-33), 3) := by decide +kernel
theorem d_Gr_grow_147 : decode b_Gr_grow 147 = .ok (.return_, 1) := by decide +kernel
theorem d_Gr_sumUp_0 : decode b_Gr_sumUp 0 = .ok (.aload_n 0, 1) := by decide +kernel
theorem d_Gr_sumUp_1 : decode b_Gr_sumUp 1 = .ok (.lconst 0, 1) := by decide +kernel
theorem d_Gr_sumUp_2 : decode b_Gr_sumUp 2 = .ok (.putfield 34, 3) := by decide +kernel
theorem d_Gr_sumUp_5 : decode b_Gr_sumUp 5 = .ok (.aload_n 0, 1) := by decide +kernel
theorem d_Gr_sumUp_6 : decode b_Gr_sumUp 6 = .ok (.iconst 0, 1) := by decide +kernel
theorem d_Gr_sumUp_7 : decode b_Gr_sumUp 7 = .ok (.putfield 38, 3) := by decide +kernel
theorem d_Gr_sumUp_10 : decode b_Gr_sumUp 10 = .ok (.iconst 0, 1) := by decide +kernel
theorem d_Gr_sumUp_11 : decode b_Gr_sumUp 11 = .ok (.istore_n 2, 1) := by decide +kernel
theorem d_Gr_sumUp_12 : decode b_Gr_sumUp 12 = .ok (.iload_n 2, 1) := by decide +kernel
theorem d_Gr_sumUp_13 : decode b_Gr_sumUp 13 = .ok (.aload_n 0, 1) := by decide +kernel
theorem d_Gr_sumUp_14 : decode b_Gr_sumUp 14 = .ok (.getfield 23, 3) := by decide +kernel
theorem d_Gr_sumUp_17 : decode b_Gr_sumUp 17 = .ok (.if_icmp .ge 44, 3) := by decide +kernel
theorem d_Gr_sumUp_20 : decode b_Gr_sumUp 20 = .ok (.aload_n 0, 1) := by decide +kernel
theorem d_Gr_sumUp_21 : decode b_Gr_sumUp 21 = .ok (.getfield 27, 3) := by decide +kernel
theorem d_Gr_sumUp_24 : decode b_Gr_sumUp 24 = .ok (.iload_n 2, 1) := by decide +kernel
theorem d_Gr_sumUp_25 : decode b_Gr_sumUp 25 = .ok (.iaload, 1) := by decide +kernel
theorem d_Gr_sumUp_26 : decode b_Gr_sumUp 26 = .ok (.iload_n 1, 1) := by decide +kernel
theorem d_Gr_sumUp_27 : decode b_Gr_sumUp 27 = .ok (.if_icmp .ne 28, 3) := by decide +kernel
theorem d_Gr_sumUp_30 : decode b_Gr_sumUp 30 = .ok (.aload_n 0, 1) := by decide +kernel
theorem d_Gr_sumUp_31 : decode b_Gr_sumUp 31 = .ok (.dup, 1) := by decide +kernel
theorem d_Gr_sumUp_32 : decode b_Gr_sumUp 32 = .ok (.getfield 34, 3) := by decide +kernel
theorem d_Gr_sumUp_35 : decode b_Gr_sumUp 35 = .ok (.aload_n 0, 1) := by decide +kernel
theorem d_Gr_sumUp_36 : decode b_Gr_sumUp 36 = .ok (.getfield 16, 3) := by decide +kernel
theorem d_Gr_sumUp_39 : decode b_Gr_sumUp 39 = .ok (.iload_n 2, 1) := by decide +kernel
theorem d_Gr_sumUp_40 : decode b_Gr_sumUp 40 = .ok (.laload, 1) := by decide +kernel
theorem d_Gr_sumUp_41 : decode b_Gr_sumUp 41 = .ok (.ladd, 1) := by decide +kernel
theorem d_Gr_sumUp_42 : decode b_Gr_sumUp 42 = .ok (.putfield 34, 3) := by decide +kernel
theorem d_Gr_sumUp_45 : decode b_Gr_sumUp 45 = .ok (.aload_n 0, 1) := by decide +kernel
theorem d_Gr_sumUp_46 : decode b_Gr_sumUp 46 = .ok (.dup, 1) := by decide +kernel
theorem d_Gr_sumUp_47 : decode b_Gr_sumUp 47 = .ok (.getfield 38, 3) := by decide +kernel
theorem d_Gr_sumUp_50 : decode b_Gr_sumUp 50 = .ok (.iconst 1, 1) := by decide +kernel
theorem d_Gr_sumUp_51 : decode b_Gr_sumUp 51 = .ok (.iadd, 1) := by decide +kernel
theorem d_Gr_sumUp_52 : decode b_Gr_sumUp 52 = .ok (.putfield 38, 3) := by decide +kernel
theorem d_Gr_sumUp_55 : decode b_Gr_sumUp 55 = .ok (.iinc 2 1, 3) := by decide +kernel
theorem d_Gr_sumUp_58 : decode b_Gr_sumUp 58 = .ok (.goto (-46), 3) := by decide +kernel
theorem d_Gr_sumUp_61 : decode b_Gr_sumUp 61 = .ok (.return_, 1) := by decide +kernel
theorem d_Gr_findSplit_0 : decode b_Gr_findSplit 0 = .ok (.aload_n 0, 1) := by decide +kernel
theorem d_Gr_findSplit_1 : decode b_Gr_findSplit 1 = .ok (.aload_n 0, 1) := by decide +kernel
theorem d_Gr_findSplit_2 : decode b_Gr_findSplit 2 = .ok (.getfield 34, 3) := by decide +kernel
theorem d_Gr_findSplit_5 : decode b_Gr_findSplit 5 = .ok (.aload_n 0, 1) := by decide +kernel
theorem d_Gr_findSplit_6 : decode b_Gr_findSplit 6 = .ok (.getfield 38, 3) := by decide +kernel
theorem d_Gr_findSplit_9 : decode b_Gr_findSplit 9 = .ok (.invokestatic 96, 3) := by decide +kernel
theorem d_Gr_findSplit_12 : decode b_Gr_findSplit 12 = .ok (.putfield 41, 3) := by decide +kernel
theorem d_Gr_findSplit_15 : decode b_Gr_findSplit 15 = .ok (.aload_n 0, 1) := by decide +kernel
theorem d_Gr_findSplit_16 : decode b_Gr_findSplit 16 = .ok (.iconst (-1), 1) := by decide +kernel
theorem d_Gr_findSplit_17 : decode b_Gr_findSplit 17 = .ok (.putfield 44, 3) := by decide +kernel
theorem d_Gr_findSplit_20 : decode b_Gr_findSplit 20 = .ok (.iconst 0, 1) := by decide +kernel
theorem d_Gr_findSplit_21 : decode b_Gr_findSplit 21 = .ok (.istore_n 2, 1) := by decide +kernel
theorem d_Gr_findSplit_22 : decode b_Gr_findSplit 22 = .ok (.iload_n 2, 1) := by decide +kernel
theorem d_Gr_findSplit_23 : decode b_Gr_findSplit 23 = .ok (.iconst 5, 1) := by decide +kernel
theorem d_Gr_findSplit_24 : decode b_Gr_findSplit 24 = .ok (.if_icmp .ge 15, 3) := by decide +kernel
theorem d_Gr_findSplit_27 : decode b_Gr_findSplit 27 = .ok (.aload_n 0, 1) := by decide +kernel
theorem d_Gr_findSplit_28 : decode b_Gr_findSplit 28 = .ok (.iload_n 1, 1) := by decide +kernel
theorem d_Gr_findSplit_29 : decode b_Gr_findSplit 29 = .ok (.iload_n 2, 1) := by decide +kernel
theorem d_Gr_findSplit_30 : decode b_Gr_findSplit 30 = .ok (.invokevirtual 100, 3) := by decide +kernel
theorem d_Gr_findSplit_33 : decode b_Gr_findSplit 33 = .ok (.iinc 2 1, 3) := by decide +kernel
theorem d_Gr_findSplit_36 : decode b_Gr_findSplit 36 = .ok (.goto (-14), 3) := by decide +kernel
theorem d_Gr_findSplit_39 : decode b_Gr_findSplit 39 = .ok (.aload_n 0, 1) := by decide +kernel
theorem d_Gr_findSplit_40 : decode b_Gr_findSplit 40 = .ok (.getfield 44, 3) := by decide +kernel
theorem d_Gr_findSplit_43 : decode b_Gr_findSplit 43 = .ok (.iconst (-1), 1) := by decide +kernel
theorem d_Gr_findSplit_44 : decode b_Gr_findSplit 44 = .ok (.if_icmp .eq 7, 3) := by decide +kernel
theorem d_Gr_findSplit_47 : decode b_Gr_findSplit 47 = .ok (.iconst 1, 1) := by decide +kernel
theorem d_Gr_findSplit_48 : decode b_Gr_findSplit 48 = .ok (.goto 4, 3) := by decide +kernel
theorem d_Gr_findSplit_51 : decode b_Gr_findSplit 51 = .ok (.iconst 0, 1) := by decide +kernel
theorem d_Gr_findSplit_52 : decode b_Gr_findSplit 52 = .ok (.ireturn, 1) := by decide +kernel
theorem d_Gr_worth_0 : decode b_Gr_worth 0 = .ok (.lload_n 0, 1) := by decide +kernel
theorem d_Gr_worth_1 : decode b_Gr_worth 1 = .ok (.lload_n 0, 1) := by decide +kernel
theorem d_Gr_worth_2 : decode b_Gr_worth 2 = .ok (.lmul, 1) := by decide +kernel
theorem d_Gr_worth_3 : decode b_Gr_worth 3 = .ok (.iload_n 2, 1) := by decide +kernel
theorem d_Gr_worth_4 : decode b_Gr_worth 4 = .ok (.invokestatic 80, 3) := by decide +kernel
theorem d_Gr_worth_7 : decode b_Gr_worth 7 = .ok (.i2l, 1) := by decide +kernel
theorem d_Gr_worth_8 : decode b_Gr_worth 8 = .ok (.ldiv, 1) := by decide +kernel
theorem d_Gr_worth_9 : decode b_Gr_worth 9 = .ok (.lreturn, 1) := by decide +kernel
theorem d_Gr_share_0 : decode b_Gr_share 0 = .ok (.iconst 1, 1) := by decide +kernel
theorem d_Gr_share_1 : decode b_Gr_share 1 = .ok (.istore_n 1, 1) := by decide +kernel
theorem d_Gr_share_2 : decode b_Gr_share 2 = .ok (.iload_n 1, 1) := by decide +kernel
theorem d_Gr_share_3 : decode b_Gr_share 3 = .ok (.iload_n 0, 1) := by decide +kernel
theorem d_Gr_share_4 : decode b_Gr_share 4 = .ok (.if_icmp .ge 16, 3) := by decide +kernel
theorem d_Gr_share_7 : decode b_Gr_share 7 = .ok (.iload_n 1, 1) := by decide +kernel
theorem d_Gr_share_8 : decode b_Gr_share 8 = .ok (.bipush 16, 2) := by decide +kernel
theorem d_Gr_share_10 : decode b_Gr_share 10 = .ok (.if_icmp .ge 10, 3) := by decide +kernel
theorem d_Gr_share_13 : decode b_Gr_share 13 = .ok (.iload_n 1, 1) := by decide +kernel
theorem d_Gr_share_14 : decode b_Gr_share 14 = .ok (.iconst 2, 1) := by decide +kernel
theorem d_Gr_share_15 : decode b_Gr_share 15 = .ok (.imul, 1) := by decide +kernel
theorem d_Gr_share_16 : decode b_Gr_share 16 = .ok (.istore_n 1, 1) := by decide +kernel
theorem d_Gr_share_17 : decode b_Gr_share 17 = .ok (.goto (-15), 3) := by decide +kernel
theorem d_Gr_share_20 : decode b_Gr_share 20 = .ok (.iload_n 1, 1) := by decide +kernel
theorem d_Gr_share_21 : decode b_Gr_share 21 = .ok (.ireturn, 1) := by decide +kernel
theorem d_Gr_walkThresholds_0 : decode b_Gr_walkThresholds 0 = .ok (.lconst 0, 1) := by decide +kernel
theorem d_Gr_walkThresholds_1 : decode b_Gr_walkThresholds 1 = .ok (.lstore_n 3, 1) := by decide +kernel
theorem d_Gr_walkThresholds_2 : decode b_Gr_walkThresholds 2 = .ok (.iconst 0, 1) := by decide +kernel
theorem d_Gr_walkThresholds_3 : decode b_Gr_walkThresholds 3 = .ok (.istore 5, 2) := by decide +kernel
theorem d_Gr_walkThresholds_5 : decode b_Gr_walkThresholds 5 = .ok (.iconst 0, 1) := by decide +kernel
theorem d_Gr_walkThresholds_6 : decode b_Gr_walkThresholds 6 = .ok (.istore 6, 2) := by decide +kernel
theorem d_Gr_walkThresholds_8 : decode b_Gr_walkThresholds 8 = .ok (.iconst 0, 1) := by decide +kernel
theorem d_Gr_walkThresholds_9 : decode b_Gr_walkThresholds 9 = .ok (.istore 7, 2) := by decide +kernel
theorem d_Gr_walkThresholds_11 : decode b_Gr_walkThresholds 11 = .ok (.iload 7, 2) := by decide +kernel
theorem d_Gr_walkThresholds_13 : decode b_Gr_walkThresholds 13 = .ok (.aload_n 0, 1) := by decide +kernel
theorem d_Gr_walkThresholds_14 : decode b_Gr_walkThresholds 14 = .ok (.getfield 23, 3) := by decide +kernel
theorem d_Gr_walkThresholds_17 : decode b_Gr_walkThresholds 17 = .ok (.if_icmp .ge 79, 3) := by decide +kernel
theorem d_Gr_walkThresholds_20 : decode b_Gr_walkThresholds 20 = .ok (.aload_n 0, 1) := by decide +kernel
theorem d_Gr_walkThresholds_21 : decode b_Gr_walkThresholds 21 = .ok (.getfield 20, 3) := by decide +kernel
theorem d_Gr_walkThresholds_24 : decode b_Gr_walkThresholds 24 = .ok (.iload_n 2, 1) := by decide +kernel
theorem d_Gr_walkThresholds_25 : decode b_Gr_walkThresholds 25 = .ok (.aaload, 1) := by decide +kernel
theorem d_Gr_walkThresholds_26 : decode b_Gr_walkThresholds 26 = .ok (.iload 7, 2) := by decide +kernel
theorem d_Gr_walkThresholds_28 : decode b_Gr_walkThresholds 28 = .ok (.iaload, 1) := by decide +kernel
theorem d_Gr_walkThresholds_29 : decode b_Gr_walkThresholds 29 = .ok (.istore 8, 2) := by decide +kernel
theorem d_Gr_walkThresholds_31 : decode b_Gr_walkThresholds 31 = .ok (.aload_n 0, 1) := by decide +kernel
theorem d_Gr_walkThresholds_32 : decode b_Gr_walkThresholds 32 = .ok (.getfield 27, 3) := by decide +kernel
theorem d_Gr_walkThresholds_35 : decode b_Gr_walkThresholds 35 = .ok (.iload 8, 2) := by decide +kernel
theorem d_Gr_walkThresholds_37 : decode b_Gr_walkThresholds 37 = .ok (.iaload, 1) := by decide +kernel
theorem d_Gr_walkThresholds_38 : decode b_Gr_walkThresholds 38 = .ok (.iload_n 1, 1) := by decide +kernel
theorem d_Gr_walkThresholds_39 : decode b_Gr_walkThresholds 39 = .ok (.if_icmp .ne 51, 3) := by decide +kernel
theorem d_Gr_walkThresholds_42 : decode b_Gr_walkThresholds 42 = .ok (.aload_n 0, 1) := by decide +kernel
theorem d_Gr_walkThresholds_43 : decode b_Gr_walkThresholds 43 = .ok (.getfield 11, 3) := by decide +kernel
theorem d_Gr_walkThresholds_46 : decode b_Gr_walkThresholds 46 = .ok (.iload 8, 2) := by decide +kernel
theorem d_Gr_walkThresholds_48 : decode b_Gr_walkThresholds 48 = .ok (.aaload, 1) := by decide +kernel
theorem d_Gr_walkThresholds_49 : decode b_Gr_walkThresholds 49 = .ok (.iload_n 2, 1) := by decide +kernel
theorem d_Gr_walkThresholds_50 : decode b_Gr_walkThresholds 50 = .ok (.iaload, 1) := by decide +kernel
theorem d_Gr_walkThresholds_51 : decode b_Gr_walkThresholds 51 = .ok (.iload 6, 2) := by decide +kernel
theorem d_Gr_walkThresholds_53 : decode b_Gr_walkThresholds 53 = .ok (.if_icmp .le 24, 3) := by decide +kernel
theorem d_Gr_walkThresholds_56 : decode b_Gr_walkThresholds 56 = .ok (.aload_n 0, 1) := by decide +kernel
theorem d_Gr_walkThresholds_57 : decode b_Gr_walkThresholds 57 = .ok (.iload_n 2, 1) := by decide +kernel
theorem d_Gr_walkThresholds_58 : decode b_Gr_walkThresholds 58 = .ok (.iload 6, 2) := by decide +kernel
theorem d_Gr_walkThresholds_60 : decode b_Gr_walkThresholds 60 = .ok (.lload_n 3, 1) := by decide +kernel
theorem d_Gr_walkThresholds_61 : decode b_Gr_walkThresholds 61 = .ok (.iload 5, 2) := by decide +kernel
theorem d_Gr_walkThresholds_63 : decode b_Gr_walkThresholds 63 = .ok (.invokevirtual 103, 3) := by decide +kernel
theorem d_Gr_walkThresholds_66 : decode b_Gr_walkThresholds 66 = .ok (.aload_n 0, 1) := by decide +kernel
theorem d_Gr_walkThresholds_67 : decode b_Gr_walkThresholds 67 = .ok (.getfield 11, 3) := by decide +kernel
theorem d_Gr_walkThresholds_70 : decode b_Gr_walkThresholds 70 = .ok (.iload 8, 2) := by decide +kernel
theorem d_Gr_walkThresholds_72 : decode b_Gr_walkThresholds 72 = .ok (.aaload, 1) := by decide +kernel
theorem d_Gr_walkThresholds_73 : decode b_Gr_walkThresholds 73 = .ok (.iload_n 2, 1) := by decide +kernel
theorem d_Gr_walkThresholds_74 : decode b_Gr_walkThresholds 74 = .ok (.iaload, 1) := by decide +kernel
theorem d_Gr_walkThresholds_75 : decode b_Gr_walkThresholds 75 = .ok (.istore 6, 2) := by decide +kernel
theorem d_Gr_walkThresholds_77 : decode b_Gr_walkThresholds 77 = .ok (.lload_n 3, 1) := by decide +kernel
theorem d_Gr_walkThresholds_78 : decode b_Gr_walkThresholds 78 = .ok (.aload_n 0, 1) := by decide +kernel
theorem d_Gr_walkThresholds_79 : decode b_Gr_walkThresholds 79 = .ok (.getfield 16, 3) := by decide +kernel
theorem d_Gr_walkThresholds_82 : decode b_Gr_walkThresholds 82 = .ok (.iload 8, 2) := by decide +kernel
theorem d_Gr_walkThresholds_84 : decode b_Gr_walkThresholds 84 = .ok (.laload, 1) := by decide +kernel
theorem d_Gr_walkThresholds_85 : decode b_Gr_walkThresholds 85 = .ok (.ladd, 1) := by decide +kernel
theorem d_Gr_walkThresholds_86 : decode b_Gr_walkThresholds 86 = .ok (.lstore_n 3, 1) := by decide +kernel
theorem d_Gr_walkThresholds_87 : decode b_Gr_walkThresholds 87 = .ok (.iinc 5 1, 3) := by decide +kernel
theorem d_Gr_walkThresholds_90 : decode b_Gr_walkThresholds 90 = .ok (.iinc 7 1, 3) := by decide +kernel
theorem d_Gr_walkThresholds_93 : decode b_Gr_walkThresholds 93 = .ok (.goto (-82), 3) := by decide +kernel
theorem d_Gr_walkThresholds_96 : decode b_Gr_walkThresholds 96 = .ok (.return_, 1) := by decide +kernel
theorem d_Gr_weighSplit_0 : decode b_Gr_weighSplit 0 = .ok (.aload_n 0, 1) := by decide +kernel
theorem d_Gr_weighSplit_1 : decode b_Gr_weighSplit 1 = .ok (.getfield 38, 3) := by decide +kernel
theorem d_Gr_weighSplit_4 : decode b_Gr_weighSplit 4 = .ok (.iload 5, 2) := by decide +kernel
theorem d_Gr_weighSplit_6 : decode b_Gr_weighSplit 6 = .ok (.isub, 1) := by decide +kernel
theorem d_Gr_weighSplit_7 : decode b_Gr_weighSplit 7 = .ok (.istore 6, 2) := by decide +kernel
theorem d_Gr_weighSplit_9 : decode b_Gr_weighSplit 9 = .ok (.iload 5, 2) := by decide +kernel
theorem d_Gr_weighSplit_11 : decode b_Gr_weighSplit 11 = .ok (.aload_n 0, 1) := by decide +kernel
theorem d_Gr_weighSplit_12 : decode b_Gr_weighSplit 12 = .ok (.getfield 31, 3) := by decide +kernel
theorem d_Gr_weighSplit_15 : decode b_Gr_weighSplit 15 = .ok (.if_icmp .lt 12, 3) := by decide +kernel
theorem d_Gr_weighSplit_18 : decode b_Gr_weighSplit 18 = .ok (.iload 6, 2) := by decide +kernel
theorem d_Gr_weighSplit_20 : decode b_Gr_weighSplit 20 = .ok (.aload_n 0, 1) := by decide +kernel
theorem d_Gr_weighSplit_21 : decode b_Gr_weighSplit 21 = .ok (.getfield 31, 3) := by decide +kernel
theorem d_Gr_weighSplit_24 : decode b_Gr_weighSplit 24 = .ok (.if_icmp .ge 4, 3) := by decide +kernel
theorem d_Gr_weighSplit_27 : decode b_Gr_weighSplit 27 = .ok (.return_, 1) := by decide +kernel
theorem d_Gr_weighSplit_28 : decode b_Gr_weighSplit 28 = .ok (.lload_n 3, 1) := by decide +kernel
theorem d_Gr_weighSplit_29 : decode b_Gr_weighSplit 29 = .ok (.iload 5, 2) := by decide +kernel
theorem d_Gr_weighSplit_31 : decode b_Gr_weighSplit 31 = .ok (.invokestatic 96, 3) := by decide +kernel
theorem d_Gr_weighSplit_34 : decode b_Gr_weighSplit 34 = .ok (.aload_n 0, 1) := by decide +kernel
theorem d_Gr_weighSplit_35 : decode b_Gr_weighSplit 35 = .ok (.getfield 34, 3) := by decide +kernel
theorem d_Gr_weighSplit_38 : decode b_Gr_weighSplit 38 = .ok (.lload_n 3, 1) := by decide +kernel
theorem d_Gr_weighSplit_39 : decode b_Gr_weighSplit 39 = .ok (.lsub, 1) := by decide +kernel
theorem d_Gr_weighSplit_40 : decode b_Gr_weighSplit 40 = .ok (.iload 6, 2) := by decide +kernel
theorem d_Gr_weighSplit_42 : decode b_Gr_weighSplit 42 = .ok (.invokestatic 96, 3) := by decide +kernel
theorem d_Gr_weighSplit_45 : decode b_Gr_weighSplit 45 = .ok (.ladd, 1) := by decide +kernel
theorem d_Gr_weighSplit_46 : decode b_Gr_weighSplit 46 = .ok (.lstore 7, 2) := by decide +kernel
