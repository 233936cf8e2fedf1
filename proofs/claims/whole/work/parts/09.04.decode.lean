/-! ===== decode rows ===== -/
theorem dd_M_isLate_0 : decode c_M_isLate 0 = .ok (.aload_n 0, 1) := by decide +kernel
theorem dd_M_isLate_1 : decode c_M_isLate 1 = .ok (.getfield 58, 3) := by decide +kernel
theorem dd_M_isLate_4 : decode c_M_isLate 4 = .ok (.bipush 45, 2) := by decide +kernel
theorem dd_M_isLate_6 : decode c_M_isLate 6 = .ok (.iaload, 1) := by decide +kernel
theorem dd_M_isLate_7 : decode c_M_isLate 7 = .ok (.iload_n 1, 1) := by decide +kernel
theorem dd_M_isLate_8 : decode c_M_isLate 8 = .ok (.iadd, 1) := by decide +kernel
theorem dd_M_isLate_9 : decode c_M_isLate 9 = .ok (.sipush 9999, 3) := by decide +kernel
theorem dd_M_isLate_12 : decode c_M_isLate 12 = .ok (.if_icmp .le 7, 3) := by decide +kernel
theorem dd_M_isLate_15 : decode c_M_isLate 15 = .ok (.iconst 1, 1) := by decide +kernel
theorem dd_M_isLate_16 : decode c_M_isLate 16 = .ok (.goto 4, 3) := by decide +kernel
theorem dd_M_isLate_19 : decode c_M_isLate 19 = .ok (.iconst 0, 1) := by decide +kernel
theorem dd_M_isLate_20 : decode c_M_isLate 20 = .ok (.ireturn, 1) := by decide +kernel
theorem dd_M_isTooLong_0 : decode c_M_isTooLong 0 = .ok (.aload_n 0, 1) := by decide +kernel
theorem dd_M_isTooLong_1 : decode c_M_isTooLong 1 = .ok (.iconst 1, 1) := by decide +kernel
theorem dd_M_isTooLong_2 : decode c_M_isTooLong 2 = .ok (.aload_n 0, 1) := by decide +kernel
theorem dd_M_isTooLong_3 : decode c_M_isTooLong 3 = .ok (.aload_n 0, 1) := by decide +kernel
theorem dd_M_isTooLong_4 : decode c_M_isTooLong 4 = .ok (.getfield 58, 3) := by decide +kernel
theorem dd_M_isTooLong_7 : decode c_M_isTooLong 7 = .ok (.bipush 42, 2) := by decide +kernel
theorem dd_M_isTooLong_9 : decode c_M_isTooLong 9 = .ok (.iaload, 1) := by decide +kernel
theorem dd_M_isTooLong_10 : decode c_M_isTooLong 10 = .ok (.iload_n 1, 1) := by decide +kernel
theorem dd_M_isTooLong_11 : decode c_M_isTooLong 11 = .ok (.invokevirtual 284, 3) := by decide +kernel
theorem dd_M_isTooLong_14 : decode c_M_isTooLong 14 = .ok (.invokestatic 275, 3) := by decide +kernel
theorem dd_M_isTooLong_17 : decode c_M_isTooLong 17 = .ok (.invokevirtual 312, 3) := by decide +kernel
theorem dd_M_isTooLong_20 : decode c_M_isTooLong 20 = .ok (.ireturn, 1) := by decide +kernel
theorem dd_M_isRefused_0 : decode c_M_isRefused 0 = .ok (.iload_n 1, 1) := by decide +kernel
theorem dd_M_isRefused_1 : decode c_M_isRefused 1 = .ok (.iconst (-1), 1) := by decide +kernel
theorem dd_M_isRefused_2 : decode c_M_isRefused 2 = .ok (.if_icmp .eq 13, 3) := by decide +kernel
theorem dd_M_isRefused_5 : decode c_M_isRefused 5 = .ok (.aload_n 0, 1) := by decide +kernel
theorem dd_M_isRefused_6 : decode c_M_isRefused 6 = .ok (.getfield 61, 3) := by decide +kernel
theorem dd_M_isRefused_9 : decode c_M_isRefused 9 = .ok (.iload_n 1, 1) := by decide +kernel
theorem dd_M_isRefused_10 : decode c_M_isRefused 10 = .ok (.dup2, 1) := by decide +kernel
theorem dd_M_isRefused_11 : decode c_M_isRefused 11 = .ok (.iaload, 1) := by decide +kernel
theorem dd_M_isRefused_12 : decode c_M_isRefused 12 = .ok (.iconst 1, 1) := by decide +kernel
theorem dd_M_isRefused_13 : decode c_M_isRefused 13 = .ok (.iadd, 1) := by decide +kernel
theorem dd_M_isRefused_14 : decode c_M_isRefused 14 = .ok (.iastore, 1) := by decide +kernel
theorem dd_M_isRefused_15 : decode c_M_isRefused 15 = .ok (.iload_n 1, 1) := by decide +kernel
theorem dd_M_isRefused_16 : decode c_M_isRefused 16 = .ok (.iconst (-1), 1) := by decide +kernel
theorem dd_M_isRefused_17 : decode c_M_isRefused 17 = .ok (.if_icmp .eq 7, 3) := by decide +kernel
theorem dd_M_isRefused_20 : decode c_M_isRefused 20 = .ok (.iconst 1, 1) := by decide +kernel
theorem dd_M_isRefused_21 : decode c_M_isRefused 21 = .ok (.goto 4, 3) := by decide +kernel
theorem dd_M_isRefused_24 : decode c_M_isRefused 24 = .ok (.iconst 0, 1) := by decide +kernel
theorem dd_M_isRefused_25 : decode c_M_isRefused 25 = .ok (.ireturn, 1) := by decide +kernel
theorem dd_M_keep_0 : decode c_M_keep 0 = .ok (.aload_n 0, 1) := by decide +kernel
theorem dd_M_keep_1 : decode c_M_keep 1 = .ok (.getfield 257, 3) := by decide +kernel
theorem dd_M_keep_4 : decode c_M_keep 4 = .ok (.bipush 40, 2) := by decide +kernel
theorem dd_M_keep_6 : decode c_M_keep 6 = .ok (.if_icmp .ne 46, 3) := by decide +kernel
theorem dd_M_keep_9 : decode c_M_keep 9 = .ok (.sipush 229, 3) := by decide +kernel
theorem dd_M_keep_12 : decode c_M_keep 12 = .ok (.istore_n 1, 1) := by decide +kernel
theorem dd_M_keep_13 : decode c_M_keep 13 = .ok (.iload_n 1, 1) := by decide +kernel
theorem dd_M_keep_14 : decode c_M_keep 14 = .ok (.sipush 9160, 3) := by decide +kernel
theorem dd_M_keep_17 : decode c_M_keep 17 = .ok (.if_icmp .ge 25, 3) := by decide +kernel
theorem dd_M_keep_20 : decode c_M_keep 20 = .ok (.aload_n 0, 1) := by decide +kernel
theorem dd_M_keep_21 : decode c_M_keep 21 = .ok (.getfield 71, 3) := by decide +kernel
theorem dd_M_keep_24 : decode c_M_keep 24 = .ok (.iload_n 1, 1) := by decide +kernel
theorem dd_M_keep_25 : decode c_M_keep 25 = .ok (.sipush 229, 3) := by decide +kernel
theorem dd_M_keep_28 : decode c_M_keep 28 = .ok (.isub, 1) := by decide +kernel
theorem dd_M_keep_29 : decode c_M_keep 29 = .ok (.aload_n 0, 1) := by decide +kernel
theorem dd_M_keep_30 : decode c_M_keep 30 = .ok (.getfield 71, 3) := by decide +kernel
theorem dd_M_keep_33 : decode c_M_keep 33 = .ok (.iload_n 1, 1) := by decide +kernel
theorem dd_M_keep_34 : decode c_M_keep 34 = .ok (.iaload, 1) := by decide +kernel
theorem dd_M_keep_35 : decode c_M_keep 35 = .ok (.iastore, 1) := by decide +kernel
theorem dd_M_keep_36 : decode c_M_keep 36 = .ok (.iinc 1 1, 3) := by decide +kernel
theorem dd_M_keep_39 : decode c_M_keep 39 = .ok (.goto (-26), 3) := by decide +kernel
theorem dd_M_keep_42 : decode c_M_keep 42 = .ok (.aload_n 0, 1) := by decide +kernel
theorem dd_M_keep_43 : decode c_M_keep 43 = .ok (.dup, 1) := by decide +kernel
theorem dd_M_keep_44 : decode c_M_keep 44 = .ok (.getfield 257, 3) := by decide +kernel
theorem dd_M_keep_47 : decode c_M_keep 47 = .ok (.iconst 1, 1) := by decide +kernel
theorem dd_M_keep_48 : decode c_M_keep 48 = .ok (.isub, 1) := by decide +kernel
theorem dd_M_keep_49 : decode c_M_keep 49 = .ok (.putfield 257, 3) := by decide +kernel
theorem dd_M_keep_52 : decode c_M_keep 52 = .ok (.iconst 0, 1) := by decide +kernel
theorem dd_M_keep_53 : decode c_M_keep 53 = .ok (.istore_n 1, 1) := by decide +kernel
theorem dd_M_keep_54 : decode c_M_keep 54 = .ok (.iload_n 1, 1) := by decide +kernel
theorem dd_M_keep_55 : decode c_M_keep 55 = .ok (.sipush 229, 3) := by decide +kernel
theorem dd_M_keep_58 : decode c_M_keep 58 = .ok (.if_icmp .ge 30, 3) := by decide +kernel
theorem dd_M_keep_61 : decode c_M_keep 61 = .ok (.aload_n 0, 1) := by decide +kernel
theorem dd_M_keep_62 : decode c_M_keep 62 = .ok (.getfield 71, 3) := by decide +kernel
theorem dd_M_keep_65 : decode c_M_keep 65 = .ok (.sipush 229, 3) := by decide +kernel
theorem dd_M_keep_68 : decode c_M_keep 68 = .ok (.aload_n 0, 1) := by decide +kernel
theorem dd_M_keep_69 : decode c_M_keep 69 = .ok (.getfield 257, 3) := by decide +kernel
theorem dd_M_keep_72 : decode c_M_keep 72 = .ok (.imul, 1) := by decide +kernel
theorem dd_M_keep_73 : decode c_M_keep 73 = .ok (.iload_n 1, 1) := by decide +kernel
theorem dd_M_keep_74 : decode c_M_keep 74 = .ok (.iadd, 1) := by decide +kernel
theorem dd_M_keep_75 : decode c_M_keep 75 = .ok (.aload_n 0, 1) := by decide +kernel
theorem dd_M_keep_76 : decode c_M_keep 76 = .ok (.getfield 58, 3) := by decide +kernel
theorem dd_M_keep_79 : decode c_M_keep 79 = .ok (.iload_n 1, 1) := by decide +kernel
theorem dd_M_keep_80 : decode c_M_keep 80 = .ok (.iaload, 1) := by decide +kernel
theorem dd_M_keep_81 : decode c_M_keep 81 = .ok (.iastore, 1) := by decide +kernel
theorem dd_M_keep_82 : decode c_M_keep 82 = .ok (.iinc 1 1, 3) := by decide +kernel
theorem dd_M_keep_85 : decode c_M_keep 85 = .ok (.goto (-31), 3) := by decide +kernel
theorem dd_M_keep_88 : decode c_M_keep 88 = .ok (.aload_n 0, 1) := by decide +kernel
theorem dd_M_keep_89 : decode c_M_keep 89 = .ok (.dup, 1) := by decide +kernel
theorem dd_M_keep_90 : decode c_M_keep 90 = .ok (.getfield 257, 3) := by decide +kernel
theorem dd_M_keep_93 : decode c_M_keep 93 = .ok (.iconst 1, 1) := by decide +kernel
theorem dd_M_keep_94 : decode c_M_keep 94 = .ok (.iadd, 1) := by decide +kernel
theorem dd_M_keep_95 : decode c_M_keep 95 = .ok (.putfield 257, 3) := by decide +kernel
theorem dd_M_keep_98 : decode c_M_keep 98 = .ok (.return_, 1) := by decide +kernel
theorem dd_M_tellNow_0 : decode c_M_tellNow 0 = .ok (.aload_n 0, 1) := by decide +kernel
theorem dd_M_tellNow_1 : decode c_M_tellNow 1 = .ok (.getfield 58, 3) := by decide +kernel
theorem dd_M_tellNow_4 : decode c_M_tellNow 4 = .ok (.bipush 42, 2) := by decide +kernel
theorem dd_M_tellNow_6 : decode c_M_tellNow 6 = .ok (.iaload, 1) := by decide +kernel
theorem dd_M_tellNow_7 : decode c_M_tellNow 7 = .ok (.istore_n 2, 1) := by decide +kernel
theorem dd_M_tellNow_8 : decode c_M_tellNow 8 = .ok (.aload_n 0, 1) := by decide +kernel
theorem dd_M_tellNow_9 : decode c_M_tellNow 9 = .ok (.iload_n 2, 1) := by decide +kernel
theorem dd_M_tellNow_10 : decode c_M_tellNow 10 = .ok (.iload_n 1, 1) := by decide +kernel
theorem dd_M_tellNow_11 : decode c_M_tellNow 11 = .ok (.invokevirtual 284, 3) := by decide +kernel
theorem dd_M_tellNow_14 : decode c_M_tellNow 14 = .ok (.istore_n 3, 1) := by decide +kernel
theorem dd_M_tellNow_15 : decode c_M_tellNow 15 = .ok (.aload_n 0, 1) := by decide +kernel
theorem dd_M_tellNow_16 : decode c_M_tellNow 16 = .ok (.getfield 58, 3) := by decide +kernel
theorem dd_M_tellNow_19 : decode c_M_tellNow 19 = .ok (.iconst 0, 1) := by decide +kernel
theorem dd_M_tellNow_20 : decode c_M_tellNow 20 = .ok (.bipush 6, 2) := by decide +kernel
theorem dd_M_tellNow_22 : decode c_M_tellNow 22 = .ok (.iload_n 2, 1) := by decide +kernel
theorem dd_M_tellNow_23 : decode c_M_tellNow 23 = .ok (.imul, 1) := by decide +kernel
theorem dd_M_tellNow_24 : decode c_M_tellNow 24 = .ok (.iadd, 1) := by decide +kernel
theorem dd_M_tellNow_25 : decode c_M_tellNow 25 = .ok (.iload_n 1, 1) := by decide +kernel
theorem dd_M_tellNow_26 : decode c_M_tellNow 26 = .ok (.iadd, 1) := by decide +kernel
theorem dd_M_tellNow_27 : decode c_M_tellNow 27 = .ok (.bipush 99, 2) := by decide +kernel
theorem dd_M_tellNow_29 : decode c_M_tellNow 29 = .ok (.aload_n 0, 1) := by decide +kernel
theorem dd_M_tellNow_30 : decode c_M_tellNow 30 = .ok (.iload_n 2, 1) := by decide +kernel
theorem dd_M_tellNow_31 : decode c_M_tellNow 31 = .ok (.iload_n 1, 1) := by decide +kernel
theorem dd_M_tellNow_32 : decode c_M_tellNow 32 = .ok (.invokevirtual 277, 3) := by decide +kernel
theorem dd_M_tellNow_35 : decode c_M_tellNow 35 = .ok (.iconst 1, 1) := by decide +kernel
theorem dd_M_tellNow_36 : decode c_M_tellNow 36 = .ok (.iadd, 1) := by decide +kernel
theorem dd_M_tellNow_37 : decode c_M_tellNow 37 = .ok (.invokestatic 273, 3) := by decide +kernel
theorem dd_M_tellNow_40 : decode c_M_tellNow 40 = .ok (.iastore, 1) := by decide +kernel
theorem dd_M_tellNow_41 : decode c_M_tellNow 41 = .ok (.aload_n 0, 1) := by decide +kernel
theorem dd_M_tellNow_42 : decode c_M_tellNow 42 = .ok (.getfield 58, 3) := by decide +kernel
theorem dd_M_tellNow_45 : decode c_M_tellNow 45 = .ok (.bipush 46, 2) := by decide +kernel
theorem dd_M_tellNow_47 : decode c_M_tellNow 47 = .ok (.dup2, 1) := by decide +kernel
theorem dd_M_tellNow_48 : decode c_M_tellNow 48 = .ok (.iaload, 1) := by decide +kernel
theorem dd_M_tellNow_49 : decode c_M_tellNow 49 = .ok (.iload_n 3, 1) := by decide +kernel
theorem dd_M_tellNow_50 : decode c_M_tellNow 50 = .ok (.iadd, 1) := by decide +kernel
theorem dd_M_tellNow_51 : decode c_M_tellNow 51 = .ok (.iastore, 1) := by decide +kernel
theorem dd_M_tellNow_52 : decode c_M_tellNow 52 = .ok (.aload_n 0, 1) := by decide +kernel
theorem dd_M_tellNow_53 : decode c_M_tellNow 53 = .ok (.getfield 58, 3) := by decide +kernel
theorem dd_M_tellNow_56 : decode c_M_tellNow 56 = .ok (.bipush 44, 2) := by decide +kernel
theorem dd_M_tellNow_58 : decode c_M_tellNow 58 = .ok (.iload_n 3, 1) := by decide +kernel
theorem dd_M_tellNow_59 : decode c_M_tellNow 59 = .ok (.ifCond .ne 19, 3) := by decide +kernel
theorem dd_M_tellNow_62 : decode c_M_tellNow 62 = .ok (.iconst 0, 1) := by decide +kernel
theorem dd_M_tellNow_63 : decode c_M_tellNow 63 = .ok (.aload_n 0, 1) := by decide +kernel
theorem dd_M_tellNow_64 : decode c_M_tellNow 64 = .ok (.getfield 58, 3) := by decide +kernel
theorem dd_M_tellNow_67 : decode c_M_tellNow 67 = .ok (.bipush 44, 2) := by decide +kernel
theorem dd_M_tellNow_69 : decode c_M_tellNow 69 = .ok (.iaload, 1) := by decide +kernel
theorem dd_M_tellNow_70 : decode c_M_tellNow 70 = .ok (.iconst 1, 1) := by decide +kernel
theorem dd_M_tellNow_71 : decode c_M_tellNow 71 = .ok (.isub, 1) := by decide +kernel
theorem dd_M_tellNow_72 : decode c_M_tellNow 72 = .ok (.invokestatic 275, 3) := by decide +kernel
theorem dd_M_tellNow_75 : decode c_M_tellNow 75 = .ok (.goto 20, 3) := by decide +kernel
theorem dd_M_tellNow_78 : decode c_M_tellNow 78 = .ok (.sipush 999, 3) := by decide +kernel
theorem dd_M_tellNow_81 : decode c_M_tellNow 81 = .ok (.aload_n 0, 1) := by decide +kernel
theorem dd_M_tellNow_82 : decode c_M_tellNow 82 = .ok (.getfield 58, 3) := by decide +kernel
theorem dd_M_tellNow_85 : decode c_M_tellNow 85 = .ok (.bipush 44, 2) := by decide +kernel
theorem dd_M_tellNow_87 : decode c_M_tellNow 87 = .ok (.iaload, 1) := by decide +kernel
theorem dd_M_tellNow_88 : decode c_M_tellNow 88 = .ok (.iload_n 3, 1) := by decide +kernel
theorem dd_M_tellNow_89 : decode c_M_tellNow 89 = .ok (.iconst 3, 1) := by decide +kernel
theorem dd_M_tellNow_90 : decode c_M_tellNow 90 = .ok (.idiv, 1) := by decide +kernel
theorem dd_M_tellNow_91 : decode c_M_tellNow 91 = .ok (.iadd, 1) := by decide +kernel
theorem dd_M_tellNow_92 : decode c_M_tellNow 92 = .ok (.invokestatic 273, 3) := by decide +kernel
theorem dd_M_tellNow_95 : decode c_M_tellNow 95 = .ok (.iastore, 1) := by decide +kernel
theorem dd_M_tellNow_96 : decode c_M_tellNow 96 = .ok (.aload_n 0, 1) := by decide +kernel
theorem dd_M_tellNow_97 : decode c_M_tellNow 97 = .ok (.getfield 58, 3) := by decide +kernel
theorem dd_M_tellNow_100 : decode c_M_tellNow 100 = .ok (.bipush 47, 2) := by decide +kernel
theorem dd_M_tellNow_102 : decode c_M_tellNow 102 = .ok (.dup2, 1) := by decide +kernel
theorem dd_M_tellNow_103 : decode c_M_tellNow 103 = .ok (.iaload, 1) := by decide +kernel
theorem dd_M_tellNow_104 : decode c_M_tellNow 104 = .ok (.iload_n 3, 1) := by decide +kernel
theorem dd_M_tellNow_105 : decode c_M_tellNow 105 = .ok (.ifCond .ne 7, 3) := by decide +kernel
theorem dd_M_tellNow_108 : decode c_M_tellNow 108 = .ok (.iconst 1, 1) := by decide +kernel
theorem dd_M_tellNow_109 : decode c_M_tellNow 109 = .ok (.goto 4, 3) := by decide +kernel
theorem dd_M_tellNow_112 : decode c_M_tellNow 112 = .ok (.iconst 0, 1) := by decide +kernel
theorem dd_M_tellNow_113 : decode c_M_tellNow 113 = .ok (.iadd, 1) := by decide +kernel
theorem dd_M_tellNow_114 : decode c_M_tellNow 114 = .ok (.iastore, 1) := by decide +kernel
theorem dd_M_tellNow_115 : decode c_M_tellNow 115 = .ok (.iload_n 3, 1) := by decide +kernel
theorem dd_M_tellNow_116 : decode c_M_tellNow 116 = .ok (.ireturn, 1) := by decide +kernel
theorem dd_M_noteTelling_0 : decode c_M_noteTelling 0 = .ok (.aload_n 0, 1) := by decide +kernel
theorem dd_M_noteTelling_1 : decode c_M_noteTelling 1 = .ok (.getfield 58, 3) := by decide +kernel
theorem dd_M_noteTelling_4 : decode c_M_noteTelling 4 = .ok (.bipush 48, 2) := by decide +kernel
theorem dd_M_noteTelling_6 : decode c_M_noteTelling 6 = .ok (.iaload, 1) := by decide +kernel
theorem dd_M_noteTelling_7 : decode c_M_noteTelling 7 = .ok (.bipush 60, 2) := by decide +kernel
theorem dd_M_noteTelling_9 : decode c_M_noteTelling 9 = .ok (.if_icmp .ne 53, 3) := by decide +kernel
theorem dd_M_noteTelling_12 : decode c_M_noteTelling 12 = .ok (.iconst 3, 1) := by decide +kernel
theorem dd_M_noteTelling_13 : decode c_M_noteTelling 13 = .ok (.istore 4, 2) := by decide +kernel
theorem dd_M_noteTelling_15 : decode c_M_noteTelling 15 = .ok (.iload 4, 2) := by decide +kernel
theorem dd_M_noteTelling_17 : decode c_M_noteTelling 17 = .ok (.sipush 180, 3) := by decide +kernel
theorem dd_M_noteTelling_20 : decode c_M_noteTelling 20 = .ok (.if_icmp .ge 31, 3) := by decide +kernel
theorem dd_M_noteTelling_23 : decode c_M_noteTelling 23 = .ok (.aload_n 0, 1) := by decide +kernel
theorem dd_M_noteTelling_24 : decode c_M_noteTelling 24 = .ok (.getfield 58, 3) := by decide +kernel
theorem dd_M_noteTelling_27 : decode c_M_noteTelling 27 = .ok (.bipush 49, 2) := by decide +kernel
theorem dd_M_noteTelling_29 : decode c_M_noteTelling 29 = .ok (.iload 4, 2) := by decide +kernel
theorem dd_M_noteTelling_31 : decode c_M_noteTelling 31 = .ok (.iadd, 1) := by decide +kernel
theorem dd_M_noteTelling_32 : decode c_M_noteTelling 32 = .ok (.iconst 3, 1) := by decide +kernel
theorem dd_M_noteTelling_33 : decode c_M_noteTelling 33 = .ok (.isub, 1) := by decide +kernel
theorem dd_M_noteTelling_34 : decode c_M_noteTelling 34 = .ok (.aload_n 0, 1) := by decide +kernel
theorem dd_M_noteTelling_35 : decode c_M_noteTelling 35 = .ok (.getfield 58, 3) := by decide +kernel
theorem dd_M_noteTelling_38 : decode c_M_noteTelling 38 = .ok (.bipush 49, 2) := by decide +kernel
theorem dd_M_noteTelling_40 : decode c_M_noteTelling 40 = .ok (.iload 4, 2) := by decide +kernel
theorem dd_M_noteTelling_42 : decode c_M_noteTelling 42 = .ok (.iadd, 1) := by decide +kernel
theorem dd_M_noteTelling_43 : decode c_M_noteTelling 43 = .ok (.iaload, 1) := by decide +kernel
theorem dd_M_noteTelling_44 : decode c_M_noteTelling 44 = .ok (.iastore, 1) := by decide +kernel
theorem dd_M_noteTelling_45 : decode c_M_noteTelling 45 = .ok (.iinc 4 1, 3) := by decide +kernel
theorem dd_M_noteTelling_48 : decode c_M_noteTelling 48 = .ok (.goto (-33), 3) := by decide +kernel
theorem dd_M_noteTelling_51 : decode c_M_noteTelling 51 = .ok (.aload_n 0, 1) := by decide +kernel
theorem dd_M_noteTelling_52 : decode c_M_noteTelling 52 = .ok (.getfield 58, 3) := by decide +kernel
theorem dd_M_noteTelling_55 : decode c_M_noteTelling 55 = .ok (.bipush 48, 2) := by decide +kernel
theorem dd_M_noteTelling_57 : decode c_M_noteTelling 57 = .ok (.dup2, 1) := by decide +kernel
theorem dd_M_noteTelling_58 : decode c_M_noteTelling 58 = .ok (.iaload, 1) := by decide +kernel
theorem dd_M_noteTelling_59 : decode c_M_noteTelling 59 = .ok (.iconst 1, 1) := by decide +kernel
theorem dd_M_noteTelling_60 : decode c_M_noteTelling 60 = .ok (.isub, 1) := by decide +kernel
theorem dd_M_noteTelling_61 : decode c_M_noteTelling 61 = .ok (.iastore, 1) := by decide +kernel
theorem dd_M_noteTelling_62 : decode c_M_noteTelling 62 = .ok (.bipush 49, 2) := by decide +kernel
theorem dd_M_noteTelling_64 : decode c_M_noteTelling 64 = .ok (.iconst 3, 1) := by decide +kernel
theorem dd_M_noteTelling_65 : decode c_M_noteTelling 65 = .ok (.aload_n 0, 1) := by decide +kernel
theorem dd_M_noteTelling_66 : decode c_M_noteTelling 66 = .ok (.getfield 58, 3) := by decide +kernel
theorem dd_M_noteTelling_69 : decode c_M_noteTelling 69 = .ok (.bipush 48, 2) := by decide +kernel
theorem dd_M_noteTelling_71 : decode c_M_noteTelling 71 = .ok (.iaload, 1) := by decide +kernel
theorem dd_M_noteTelling_72 : decode c_M_noteTelling 72 = .ok (.imul, 1) := by decide +kernel
theorem dd_M_noteTelling_73 : decode c_M_noteTelling 73 = .ok (.iadd, 1) := by decide +kernel
theorem dd_M_noteTelling_74 : decode c_M_noteTelling 74 = .ok (.istore 4, 2) := by decide +kernel
theorem dd_M_noteTelling_76 : decode c_M_noteTelling 76 = .ok (.aload_n 0, 1) := by decide +kernel
theorem dd_M_noteTelling_77 : decode c_M_noteTelling 77 = .ok (.getfield 58, 3) := by decide +kernel
theorem dd_M_noteTelling_80 : decode c_M_noteTelling 80 = .ok (.iload 4, 2) := by decide +kernel
theorem dd_M_noteTelling_82 : decode c_M_noteTelling 82 = .ok (.iload_n 1, 1) := by decide +kernel
theorem dd_M_noteTelling_83 : decode c_M_noteTelling 83 = .ok (.iastore, 1) := by decide +kernel
theorem dd_M_noteTelling_84 : decode c_M_noteTelling 84 = .ok (.aload_n 0, 1) := by decide +kernel
theorem dd_M_noteTelling_85 : decode c_M_noteTelling 85 = .ok (.getfield 58, 3) := by decide +kernel
theorem dd_M_noteTelling_88 : decode c_M_noteTelling 88 = .ok (.iload 4, 2) := by decide +kernel
theorem dd_M_noteTelling_90 : decode c_M_noteTelling 90 = .ok (.iconst 1, 1) := by decide +kernel
theorem dd_M_noteTelling_91 : decode c_M_noteTelling 91 = .ok (.iadd, 1) := by decide +kernel
theorem dd_M_noteTelling_92 : decode c_M_noteTelling 92 = .ok (.iload_n 2, 1) := by decide +kernel
theorem dd_M_noteTelling_93 : decode c_M_noteTelling 93 = .ok (.iastore, 1) := by decide +kernel
theorem dd_M_noteTelling_94 : decode c_M_noteTelling 94 = .ok (.aload_n 0, 1) := by decide +kernel
theorem dd_M_noteTelling_95 : decode c_M_noteTelling 95 = .ok (.getfield 58, 3) := by decide +kernel
theorem dd_M_noteTelling_98 : decode c_M_noteTelling 98 = .ok (.iload 4, 2) := by decide +kernel
theorem dd_M_noteTelling_100 : decode c_M_noteTelling 100 = .ok (.iconst 2, 1) := by decide +kernel
theorem dd_M_noteTelling_101 : decode c_M_noteTelling 101 = .ok (.iadd, 1) := by decide +kernel
theorem dd_M_noteTelling_102 : decode c_M_noteTelling 102 = .ok (.iload_n 3, 1) := by decide +kernel
theorem dd_M_noteTelling_103 : decode c_M_noteTelling 103 = .ok (.iastore, 1) := by decide +kernel
theorem dd_M_noteTelling_104 : decode c_M_noteTelling 104 = .ok (.aload_n 0, 1) := by decide +kernel
theorem dd_M_noteTelling_105 : decode c_M_noteTelling 105 = .ok (.getfield 58, 3) := by decide +kernel
theorem dd_M_noteTelling_108 : decode c_M_noteTelling 108 = .ok (.bipush 48, 2) := by decide +kernel
theorem dd_M_noteTelling_110 : decode c_M_noteTelling 110 = .ok (.dup2, 1) := by decide +kernel
theorem dd_M_noteTelling_111 : decode c_M_noteTelling 111 = .ok (.iaload, 1) := by decide +kernel
theorem dd_M_noteTelling_112 : decode c_M_noteTelling 112 = .ok (.iconst 1, 1) := by decide +kernel
theorem dd_M_noteTelling_113 : decode c_M_noteTelling 113 = .ok (.iadd, 1) := by decide +kernel
theorem dd_M_noteTelling_114 : decode c_M_noteTelling 114 = .ok (.iastore, 1) := by decide +kernel
theorem dd_M_noteTelling_115 : decode c_M_noteTelling 115 = .ok (.return_, 1) := by decide +kernel
theorem dd_M_tellLogged_0 : decode c_M_tellLogged 0 = .ok (.aload_n 0, 1) := by decide +kernel
theorem dd_M_tellLogged_1 : decode c_M_tellLogged 1 = .ok (.getfield 58, 3) := by decide +kernel
theorem dd_M_tellLogged_4 : decode c_M_tellLogged 4 = .ok (.bipush 42, 2) := by decide +kernel
theorem dd_M_tellLogged_6 : decode c_M_tellLogged 6 = .ok (.iaload, 1) := by decide +kernel
theorem dd_M_tellLogged_7 : decode c_M_tellLogged 7 = .ok (.istore_n 2, 1) := by decide +kernel
theorem dd_M_tellLogged_8 : decode c_M_tellLogged 8 = .ok (.aload_n 0, 1) := by decide +kernel
theorem dd_M_tellLogged_9 : decode c_M_tellLogged 9 = .ok (.iload_n 1, 1) := by decide +kernel
theorem dd_M_tellLogged_10 : decode c_M_tellLogged 10 = .ok (.invokevirtual 293, 3) := by decide +kernel
theorem dd_M_tellLogged_13 : decode c_M_tellLogged 13 = .ok (.istore_n 3, 1) := by decide +kernel
theorem dd_M_tellLogged_14 : decode c_M_tellLogged 14 = .ok (.aload_n 0, 1) := by decide +kernel
theorem dd_M_tellLogged_15 : decode c_M_tellLogged 15 = .ok (.getfield 58, 3) := by decide +kernel
theorem dd_M_tellLogged_18 : decode c_M_tellLogged 18 = .ok (.bipush 45, 2) := by decide +kernel
theorem dd_M_tellLogged_20 : decode c_M_tellLogged 20 = .ok (.dup2, 1) := by decide +kernel
theorem dd_M_tellLogged_21 : decode c_M_tellLogged 21 = .ok (.iaload, 1) := by decide +kernel
theorem dd_M_tellLogged_22 : decode c_M_tellLogged 22 = .ok (.iconst 1, 1) := by decide +kernel
theorem dd_M_tellLogged_23 : decode c_M_tellLogged 23 = .ok (.iload_n 3, 1) := by decide +kernel
theorem dd_M_tellLogged_24 : decode c_M_tellLogged 24 = .ok (.invokestatic 275, 3) := by decide +kernel
theorem dd_M_tellLogged_27 : decode c_M_tellLogged 27 = .ok (.iadd, 1) := by decide +kernel
theorem dd_M_tellLogged_28 : decode c_M_tellLogged 28 = .ok (.iastore, 1) := by decide +kernel
theorem dd_M_tellLogged_29 : decode c_M_tellLogged 29 = .ok (.aload_n 0, 1) := by decide +kernel
theorem dd_M_tellLogged_30 : decode c_M_tellLogged 30 = .ok (.iload_n 2, 1) := by decide +kernel
theorem dd_M_tellLogged_31 : decode c_M_tellLogged 31 = .ok (.iload_n 1, 1) := by decide +kernel
theorem dd_M_tellLogged_32 : decode c_M_tellLogged 32 = .ok (.iload_n 3, 1) := by decide +kernel
theorem dd_M_tellLogged_33 : decode c_M_tellLogged 33 = .ok (.invokevirtual 296, 3) := by decide +kernel
theorem dd_M_tellLogged_36 : decode c_M_tellLogged 36 = .ok (.iload_n 3, 1) := by decide +kernel
theorem dd_M_tellLogged_37 : decode c_M_tellLogged 37 = .ok (.ireturn, 1) := by decide +kernel
theorem dd_M_tells_0 : decode c_M_tells 0 = .ok (.aload_n 0, 1) := by decide +kernel
theorem dd_M_tells_1 : decode c_M_tells 1 = .ok (.aload_n 0, 1) := by decide +kernel
theorem dd_M_tells_2 : decode c_M_tells 2 = .ok (.iload_n 1, 1) := by decide +kernel
theorem dd_M_tells_3 : decode c_M_tells 3 = .ok (.invokevirtual 306, 3) := by decide +kernel
theorem dd_M_tells_6 : decode c_M_tells 6 = .ok (.ifCond .ne 7, 3) := by decide +kernel
theorem dd_M_tells_9 : decode c_M_tells 9 = .ok (.iconst 0, 1) := by decide +kernel
theorem dd_M_tells_10 : decode c_M_tells 10 = .ok (.goto 28, 3) := by decide +kernel
theorem dd_M_tells_13 : decode c_M_tells 13 = .ok (.aload_n 0, 1) := by decide +kernel
theorem dd_M_tells_14 : decode c_M_tells 14 = .ok (.iload_n 1, 1) := by decide +kernel
theorem dd_M_tells_15 : decode c_M_tells 15 = .ok (.invokevirtual 309, 3) := by decide +kernel
theorem dd_M_tells_18 : decode c_M_tells 18 = .ok (.ifCond .ne 7, 3) := by decide +kernel
theorem dd_M_tells_21 : decode c_M_tells 21 = .ok (.iconst 2, 1) := by decide +kernel
theorem dd_M_tells_22 : decode c_M_tells 22 = .ok (.goto 16, 3) := by decide +kernel
theorem dd_M_tells_25 : decode c_M_tells 25 = .ok (.aload_n 0, 1) := by decide +kernel
theorem dd_M_tells_26 : decode c_M_tells 26 = .ok (.iload_n 1, 1) := by decide +kernel
theorem dd_M_tells_27 : decode c_M_tells 27 = .ok (.invokevirtual 315, 3) := by decide +kernel
theorem dd_M_tells_30 : decode c_M_tells 30 = .ok (.ifCond .eq 7, 3) := by decide +kernel
theorem dd_M_tells_33 : decode c_M_tells 33 = .ok (.iconst 4, 1) := by decide +kernel
theorem dd_M_tells_34 : decode c_M_tells 34 = .ok (.goto 4, 3) := by decide +kernel
theorem dd_M_tells_37 : decode c_M_tells 37 = .ok (.iconst (-1), 1) := by decide +kernel
theorem dd_M_tells_38 : decode c_M_tells 38 = .ok (.invokevirtual 318, 3) := by decide +kernel
theorem dd_M_tells_41 : decode c_M_tells 41 = .ok (.ifCond .eq 5, 3) := by decide +kernel
theorem dd_M_tells_44 : decode c_M_tells 44 = .ok (.iconst (-1), 1) := by decide +kernel
theorem dd_M_tells_45 : decode c_M_tells 45 = .ok (.ireturn, 1) := by decide +kernel
theorem dd_M_tells_46 : decode c_M_tells 46 = .ok (.aload_n 0, 1) := by decide +kernel
theorem dd_M_tells_47 : decode c_M_tells 47 = .ok (.invokevirtual 321, 3) := by decide +kernel
theorem dd_M_tells_50 : decode c_M_tells 50 = .ok (.aload_n 0, 1) := by decide +kernel
theorem dd_M_tells_51 : decode c_M_tells 51 = .ok (.iload_n 1, 1) := by decide +kernel
theorem dd_M_tells_52 : decode c_M_tells 52 = .ok (.invokevirtual 324, 3) := by decide +kernel
theorem dd_M_tells_55 : decode c_M_tells 55 = .ok (.ireturn, 1) := by decide +kernel
theorem dd_Stand_farTo_0 : decode c_Stand_farTo 0 = .ok (.iload_n 1, 1) := by decide +kernel
theorem dd_Stand_farTo_1 : decode c_Stand_farTo 1 = .ok (.aload_n 0, 1) := by decide +kernel
theorem dd_Stand_farTo_2 : decode c_Stand_farTo 2 = .ok (.getfield 29, 3) := by decide +kernel
theorem dd_Stand_farTo_5 : decode c_Stand_farTo 5 = .ok (.isub, 1) := by decide +kernel
theorem dd_Stand_farTo_6 : decode c_Stand_farTo 6 = .ok (.invokestatic 77, 3) := by decide +kernel
theorem dd_Stand_farTo_9 : decode c_Stand_farTo 9 = .ok (.ireturn, 1) := by decide +kernel
theorem dd_Stand_walkTo_0 : decode c_Stand_walkTo 0 = .ok (.aload_n 0, 1) := by decide +kernel
theorem dd_Stand_walkTo_1 : decode c_Stand_walkTo 1 = .ok (.iload_n 1, 1) := by decide +kernel
theorem dd_Stand_walkTo_2 : decode c_Stand_walkTo 2 = .ok (.invokevirtual 90, 3) := by decide +kernel
theorem dd_Stand_walkTo_5 : decode c_Stand_walkTo 5 = .ok (.istore_n 2, 1) := by decide +kernel
theorem dd_Stand_walkTo_6 : decode c_Stand_walkTo 6 = .ok (.aload_n 0, 1) := by decide +kernel
theorem dd_Stand_walkTo_7 : decode c_Stand_walkTo 7 = .ok (.dup, 1) := by decide +kernel
theorem dd_Stand_walkTo_8 : decode c_Stand_walkTo 8 = .ok (.getfield 42, 3) := by decide +kernel
theorem dd_Stand_walkTo_11 : decode c_Stand_walkTo 11 = .ok (.iload_n 2, 1) := by decide +kernel
theorem dd_Stand_walkTo_12 : decode c_Stand_walkTo 12 = .ok (.iadd, 1) := by decide +kernel
theorem dd_Stand_walkTo_13 : decode c_Stand_walkTo 13 = .ok (.putfield 42, 3) := by decide +kernel
theorem dd_Stand_walkTo_16 : decode c_Stand_walkTo 16 = .ok (.aload_n 0, 1) := by decide +kernel
theorem dd_Stand_walkTo_17 : decode c_Stand_walkTo 17 = .ok (.dup, 1) := by decide +kernel
theorem dd_Stand_walkTo_18 : decode c_Stand_walkTo 18 = .ok (.getfield 41, 3) := by decide +kernel
theorem dd_Stand_walkTo_21 : decode c_Stand_walkTo 21 = .ok (.iload_n 2, 1) := by decide +kernel
theorem dd_Stand_walkTo_22 : decode c_Stand_walkTo 22 = .ok (.isub, 1) := by decide +kernel
theorem dd_Stand_walkTo_23 : decode c_Stand_walkTo 23 = .ok (.putfield 41, 3) := by decide +kernel
theorem dd_Stand_walkTo_26 : decode c_Stand_walkTo 26 = .ok (.aload_n 0, 1) := by decide +kernel
theorem dd_Stand_walkTo_27 : decode c_Stand_walkTo 27 = .ok (.iload_n 1, 1) := by decide +kernel
theorem dd_Stand_walkTo_28 : decode c_Stand_walkTo 28 = .ok (.putfield 29, 3) := by decide +kernel
theorem dd_Stand_walkTo_31 : decode c_Stand_walkTo 31 = .ok (.return_, 1) := by decide +kernel
theorem dd_W_goes_0 : decode c_W_goes 0 = .ok (.aload_n 0, 1) := by decide +kernel
theorem dd_W_goes_1 : decode c_W_goes 1 = .ok (.getfield 42, 3) := by decide +kernel
theorem dd_W_goes_4 : decode c_W_goes 4 = .ok (.iload_n 1, 1) := by decide +kernel
theorem dd_W_goes_5 : decode c_W_goes 5 = .ok (.invokevirtual 150, 3) := by decide +kernel
theorem dd_W_goes_8 : decode c_W_goes 8 = .ok (.ifCond .ne 9, 3) := by decide +kernel
theorem dd_W_goes_11 : decode c_W_goes 11 = .ok (.aload_n 0, 1) := by decide +kernel
theorem dd_W_goes_12 : decode c_W_goes 12 = .ok (.iconst 0, 1) := by decide +kernel
theorem dd_W_goes_13 : decode c_W_goes 13 = .ok (.invokevirtual 195, 3) := by decide +kernel
theorem dd_W_goes_16 : decode c_W_goes 16 = .ok (.ireturn, 1) := by decide +kernel
theorem dd_W_goes_17 : decode c_W_goes 17 = .ok (.iload_n 1, 1) := by decide +kernel
theorem dd_W_goes_18 : decode c_W_goes 18 = .ok (.aload_n 0, 1) := by decide +kernel
theorem dd_W_goes_19 : decode c_W_goes 19 = .ok (.getfield 49, 3) := by decide +kernel
theorem dd_W_goes_22 : decode c_W_goes 22 = .ok (.getfield 198, 3) := by decide +kernel
theorem dd_W_goes_25 : decode c_W_goes 25 = .ok (.if_icmp .ne 9, 3) := by decide +kernel
theorem dd_W_goes_28 : decode c_W_goes 28 = .ok (.aload_n 0, 1) := by decide +kernel
theorem dd_W_goes_29 : decode c_W_goes 29 = .ok (.iconst 2, 1) := by decide +kernel
theorem dd_W_goes_30 : decode c_W_goes 30 = .ok (.invokevirtual 195, 3) := by decide +kernel
theorem dd_W_goes_33 : decode c_W_goes 33 = .ok (.ireturn, 1) := by decide +kernel
theorem dd_W_goes_34 : decode c_W_goes 34 = .ok (.aload_n 0, 1) := by decide +kernel
theorem dd_W_goes_35 : decode c_W_goes 35 = .ok (.getfield 49, 3) := by decide +kernel
theorem dd_W_goes_38 : decode c_W_goes 38 = .ok (.iload_n 1, 1) := by decide +kernel
theorem dd_W_goes_39 : decode c_W_goes 39 = .ok (.invokevirtual 215, 3) := by decide +kernel
theorem dd_W_goes_42 : decode c_W_goes 42 = .ok (.istore_n 2, 1) := by decide +kernel
theorem dd_W_goes_43 : decode c_W_goes 43 = .ok (.iload_n 2, 1) := by decide +kernel
theorem dd_W_goes_44 : decode c_W_goes 44 = .ok (.aload_n 0, 1) := by decide +kernel
theorem dd_W_goes_45 : decode c_W_goes 45 = .ok (.getfield 49, 3) := by decide +kernel
theorem dd_W_goes_48 : decode c_W_goes 48 = .ok (.getfield 218, 3) := by decide +kernel
theorem dd_W_goes_51 : decode c_W_goes 51 = .ok (.if_icmp .le 9, 3) := by decide +kernel
theorem dd_W_goes_54 : decode c_W_goes 54 = .ok (.aload_n 0, 1) := by decide +kernel
theorem dd_W_goes_55 : decode c_W_goes 55 = .ok (.iconst 3, 1) := by decide +kernel
theorem dd_W_goes_56 : decode c_W_goes 56 = .ok (.invokevirtual 195, 3) := by decide +kernel
theorem dd_W_goes_59 : decode c_W_goes 59 = .ok (.ireturn, 1) := by decide +kernel
theorem dd_W_goes_60 : decode c_W_goes 60 = .ok (.aload_n 0, 1) := by decide +kernel
theorem dd_W_goes_61 : decode c_W_goes 61 = .ok (.getfield 49, 3) := by decide +kernel
theorem dd_W_goes_64 : decode c_W_goes 64 = .ok (.iload_n 2, 1) := by decide +kernel
theorem dd_W_goes_65 : decode c_W_goes 65 = .ok (.invokevirtual 204, 3) := by decide +kernel
theorem dd_W_goes_68 : decode c_W_goes 68 = .ok (.ifCond .ne 9, 3) := by decide +kernel
theorem dd_W_goes_71 : decode c_W_goes 71 = .ok (.aload_n 0, 1) := by decide +kernel
theorem dd_W_goes_72 : decode c_W_goes 72 = .ok (.iconst 4, 1) := by decide +kernel
theorem dd_W_goes_73 : decode c_W_goes 73 = .ok (.invokevirtual 195, 3) := by decide +kernel
theorem dd_W_goes_76 : decode c_W_goes 76 = .ok (.ireturn, 1) := by decide +kernel
theorem dd_W_goes_77 : decode c_W_goes 77 = .ok (.aload_n 0, 1) := by decide +kernel
theorem dd_W_goes_78 : decode c_W_goes 78 = .ok (.getfield 56, 3) := by decide +kernel
theorem dd_W_goes_81 : decode c_W_goes 81 = .ok (.aload_n 0, 1) := by decide +kernel
theorem dd_W_goes_82 : decode c_W_goes 82 = .ok (.getfield 49, 3) := by decide +kernel
theorem dd_W_goes_85 : decode c_W_goes 85 = .ok (.invokevirtual 207, 3) := by decide +kernel
theorem dd_W_goes_88 : decode c_W_goes 88 = .ok (.aload_n 0, 1) := by decide +kernel
theorem dd_W_goes_89 : decode c_W_goes 89 = .ok (.getfield 49, 3) := by decide +kernel
theorem dd_W_goes_92 : decode c_W_goes 92 = .ok (.iload_n 1, 1) := by decide +kernel
theorem dd_W_goes_93 : decode c_W_goes 93 = .ok (.invokevirtual 221, 3) := by decide +kernel
theorem dd_W_goes_96 : decode c_W_goes 96 = .ok (.iload_n 2, 1) := by decide +kernel
theorem dd_W_goes_97 : decode c_W_goes 97 = .ok (.ireturn, 1) := by decide +kernel
theorem dd_M_farTo_0 : decode c_M_farTo 0 = .ok (.iload_n 1, 1) := by decide +kernel
theorem dd_M_farTo_1 : decode c_M_farTo 1 = .ok (.aload_n 0, 1) := by decide +kernel
theorem dd_M_farTo_2 : decode c_M_farTo 2 = .ok (.getfield 58, 3) := by decide +kernel
theorem dd_M_farTo_5 : decode c_M_farTo 5 = .ok (.bipush 42, 2) := by decide +kernel
theorem dd_M_farTo_7 : decode c_M_farTo 7 = .ok (.iaload, 1) := by decide +kernel
theorem dd_M_farTo_8 : decode c_M_farTo 8 = .ok (.isub, 1) := by decide +kernel
theorem dd_M_farTo_9 : decode c_M_farTo 9 = .ok (.invokestatic 287, 3) := by decide +kernel
theorem dd_M_farTo_12 : decode c_M_farTo 12 = .ok (.ireturn, 1) := by decide +kernel
theorem dd_M_goNow_0 : decode c_M_goNow 0 = .ok (.aload_n 0, 1) := by decide +kernel
theorem dd_M_goNow_1 : decode c_M_goNow 1 = .ok (.getfield 58, 3) := by decide +kernel
theorem dd_M_goNow_4 : decode c_M_goNow 4 = .ok (.bipush 44, 2) := by decide +kernel
theorem dd_M_goNow_6 : decode c_M_goNow 6 = .ok (.dup2, 1) := by decide +kernel
theorem dd_M_goNow_7 : decode c_M_goNow 7 = .ok (.iaload, 1) := by decide +kernel
theorem dd_M_goNow_8 : decode c_M_goNow 8 = .ok (.aload_n 0, 1) := by decide +kernel
theorem dd_M_goNow_9 : decode c_M_goNow 9 = .ok (.iload_n 1, 1) := by decide +kernel
theorem dd_M_goNow_10 : decode c_M_goNow 10 = .ok (.invokevirtual 290, 3) := by decide +kernel
theorem dd_M_goNow_13 : decode c_M_goNow 13 = .ok (.isub, 1) := by decide +kernel
theorem dd_M_goNow_14 : decode c_M_goNow 14 = .ok (.iastore, 1) := by decide +kernel
theorem dd_M_goNow_15 : decode c_M_goNow 15 = .ok (.aload_n 0, 1) := by decide +kernel
theorem dd_M_goNow_16 : decode c_M_goNow 16 = .ok (.getfield 58, 3) := by decide +kernel
theorem dd_M_goNow_19 : decode c_M_goNow 19 = .ok (.bipush 42, 2) := by decide +kernel
theorem dd_M_goNow_21 : decode c_M_goNow 21 = .ok (.iload_n 1, 1) := by decide +kernel
theorem dd_M_goNow_22 : decode c_M_goNow 22 = .ok (.iastore, 1) := by decide +kernel
theorem dd_M_goNow_23 : decode c_M_goNow 23 = .ok (.return_, 1) := by decide +kernel
theorem dd_M_goes_0 : decode c_M_goes 0 = .ok (.aload_n 0, 1) := by decide +kernel
theorem dd_M_goes_1 : decode c_M_goes 1 = .ok (.aload_n 0, 1) := by decide +kernel
theorem dd_M_goes_2 : decode c_M_goes 2 = .ok (.iload_n 1, 1) := by decide +kernel
theorem dd_M_goes_3 : decode c_M_goes 3 = .ok (.invokevirtual 300, 3) := by decide +kernel
theorem dd_M_goes_6 : decode c_M_goes 6 = .ok (.ifCond .ne 7, 3) := by decide +kernel
theorem dd_M_goes_9 : decode c_M_goes 9 = .ok (.iconst 0, 1) := by decide +kernel
theorem dd_M_goes_10 : decode c_M_goes 10 = .ok (.goto 54, 3) := by decide +kernel
theorem dd_M_goes_13 : decode c_M_goes 13 = .ok (.iload_n 1, 1) := by decide +kernel
theorem dd_M_goes_14 : decode c_M_goes 14 = .ok (.aload_n 0, 1) := by decide +kernel
theorem dd_M_goes_15 : decode c_M_goes 15 = .ok (.getfield 58, 3) := by decide +kernel
theorem dd_M_goes_18 : decode c_M_goes 18 = .ok (.bipush 42, 2) := by decide +kernel
theorem dd_M_goes_20 : decode c_M_goes 20 = .ok (.iaload, 1) := by decide +kernel
theorem dd_M_goes_21 : decode c_M_goes 21 = .ok (.if_icmp .ne 7, 3) := by decide +kernel
theorem dd_M_goes_24 : decode c_M_goes 24 = .ok (.iconst 2, 1) := by decide +kernel
theorem dd_M_goes_25 : decode c_M_goes 25 = .ok (.goto 39, 3) := by decide +kernel
theorem dd_M_goes_28 : decode c_M_goes 28 = .ok (.aload_n 0, 1) := by decide +kernel
theorem dd_M_goes_29 : decode c_M_goes 29 = .ok (.getfield 58, 3) := by decide +kernel
theorem dd_M_goes_32 : decode c_M_goes 32 = .ok (.bipush 44, 2) := by decide +kernel
theorem dd_M_goes_34 : decode c_M_goes 34 = .ok (.iaload, 1) := by decide +kernel
theorem dd_M_goes_35 : decode c_M_goes 35 = .ok (.aload_n 0, 1) := by decide +kernel
theorem dd_M_goes_36 : decode c_M_goes 36 = .ok (.iload_n 1, 1) := by decide +kernel
theorem dd_M_goes_37 : decode c_M_goes 37 = .ok (.invokevirtual 290, 3) := by decide +kernel
theorem dd_M_goes_40 : decode c_M_goes 40 = .ok (.if_icmp .ge 7, 3) := by decide +kernel
theorem dd_M_goes_43 : decode c_M_goes 43 = .ok (.iconst 3, 1) := by decide +kernel
theorem dd_M_goes_44 : decode c_M_goes 44 = .ok (.goto 20, 3) := by decide +kernel
theorem dd_M_goes_47 : decode c_M_goes 47 = .ok (.aload_n 0, 1) := by decide +kernel
theorem dd_M_goes_48 : decode c_M_goes 48 = .ok (.aload_n 0, 1) := by decide +kernel
theorem dd_M_goes_49 : decode c_M_goes 49 = .ok (.iload_n 1, 1) := by decide +kernel
theorem dd_M_goes_50 : decode c_M_goes 50 = .ok (.invokevirtual 290, 3) := by decide +kernel
theorem dd_M_goes_53 : decode c_M_goes 53 = .ok (.invokevirtual 312, 3) := by decide +kernel
theorem dd_M_goes_56 : decode c_M_goes 56 = .ok (.ifCond .eq 7, 3) := by decide +kernel
theorem dd_M_goes_59 : decode c_M_goes 59 = .ok (.iconst 4, 1) := by decide +kernel
theorem dd_M_goes_60 : decode c_M_goes 60 = .ok (.goto 4, 3) := by decide +kernel
theorem dd_M_goes_63 : decode c_M_goes 63 = .ok (.iconst (-1), 1) := by decide +kernel
theorem dd_M_goes_64 : decode c_M_goes 64 = .ok (.invokevirtual 318, 3) := by decide +kernel
theorem dd_M_goes_67 : decode c_M_goes 67 = .ok (.ifCond .eq 5, 3) := by decide +kernel
theorem dd_M_goes_70 : decode c_M_goes 70 = .ok (.iconst (-1), 1) := by decide +kernel
theorem dd_M_goes_71 : decode c_M_goes 71 = .ok (.ireturn, 1) := by decide +kernel
theorem dd_M_goes_72 : decode c_M_goes 72 = .ok (.aload_n 0, 1) := by decide +kernel
theorem dd_M_goes_73 : decode c_M_goes 73 = .ok (.invokevirtual 321, 3) := by decide +kernel
theorem dd_M_goes_76 : decode c_M_goes 76 = .ok (.aload_n 0, 1) := by decide +kernel
theorem dd_M_goes_77 : decode c_M_goes 77 = .ok (.iload_n 1, 1) := by decide +kernel
theorem dd_M_goes_78 : decode c_M_goes 78 = .ok (.invokevirtual 290, 3) := by decide +kernel
theorem dd_M_goes_81 : decode c_M_goes 81 = .ok (.istore_n 2, 1) := by decide +kernel
theorem dd_M_goes_82 : decode c_M_goes 82 = .ok (.aload_n 0, 1) := by decide +kernel
theorem dd_M_goes_83 : decode c_M_goes 83 = .ok (.iload_n 1, 1) := by decide +kernel
theorem dd_M_goes_84 : decode c_M_goes 84 = .ok (.invokevirtual 327, 3) := by decide +kernel
theorem dd_M_goes_87 : decode c_M_goes 87 = .ok (.aload_n 0, 1) := by decide +kernel
theorem dd_M_goes_88 : decode c_M_goes 88 = .ok (.getfield 58, 3) := by decide +kernel
theorem dd_M_goes_91 : decode c_M_goes 91 = .ok (.bipush 45, 2) := by decide +kernel
theorem dd_M_goes_93 : decode c_M_goes 93 = .ok (.dup2, 1) := by decide +kernel
theorem dd_M_goes_94 : decode c_M_goes 94 = .ok (.iaload, 1) := by decide +kernel
theorem dd_M_goes_95 : decode c_M_goes 95 = .ok (.iload_n 2, 1) := by decide +kernel
theorem dd_M_goes_96 : decode c_M_goes 96 = .ok (.iadd, 1) := by decide +kernel
theorem dd_M_goes_97 : decode c_M_goes 97 = .ok (.iastore, 1) := by decide +kernel
theorem dd_M_goes_98 : decode c_M_goes 98 = .ok (.iload_n 2, 1) := by decide +kernel
theorem dd_M_goes_99 : decode c_M_goes 99 = .ok (.ireturn, 1) := by decide +kernel
theorem dd_Integer_bitCount_0 : decode c_Integer_bitCount 0 = .ok (.iload_n 0, 1) := by decide +kernel
theorem dd_Integer_bitCount_1 : decode c_Integer_bitCount 1 = .ok (.iload_n 0, 1) := by decide +kernel
theorem dd_Integer_bitCount_2 : decode c_Integer_bitCount 2 = .ok (.iconst 1, 1) := by decide +kernel
theorem dd_Integer_bitCount_3 : decode c_Integer_bitCount 3 = .ok (.iushr, 1) := by decide +kernel
theorem dd_Integer_bitCount_4 : decode c_Integer_bitCount 4 = .ok (.ldc_w 265, 3) := by decide +kernel
theorem dd_Integer_bitCount_7 : decode c_Integer_bitCount 7 = .ok (.iand, 1) := by decide +kernel
theorem dd_Integer_bitCount_8 : decode c_Integer_bitCount 8 = .ok (.isub, 1) := by decide +kernel
theorem dd_Integer_bitCount_9 : decode c_Integer_bitCount 9 = .ok (.istore_n 0, 1) := by decide +kernel
theorem dd_Integer_bitCount_10 : decode c_Integer_bitCount 10 = .ok (.iload_n 0, 1) := by decide +kernel
theorem dd_Integer_bitCount_11 : decode c_Integer_bitCount 11 = .ok (.ldc_w 266, 3) := by decide +kernel
theorem dd_Integer_bitCount_14 : decode c_Integer_bitCount 14 = .ok (.iand, 1) := by decide +kernel
theorem dd_Integer_bitCount_15 : decode c_Integer_bitCount 15 = .ok (.iload_n 0, 1) := by decide +kernel
theorem dd_Integer_bitCount_16 : decode c_Integer_bitCount 16 = .ok (.iconst 2, 1) := by decide +kernel
theorem dd_Integer_bitCount_17 : decode c_Integer_bitCount 17 = .ok (.iushr, 1) := by decide +kernel
theorem dd_Integer_bitCount_18 : decode c_Integer_bitCount 18 = .ok (.ldc_w 266, 3) := by decide +kernel
theorem dd_Integer_bitCount_21 : decode c_Integer_bitCount 21 = .ok (.iand, 1) := by decide +kernel
theorem dd_Integer_bitCount_22 : decode c_Integer_bitCount 22 = .ok (.iadd, 1) := by decide +kernel
theorem dd_Integer_bitCount_23 : decode c_Integer_bitCount 23 = .ok (.istore_n 0, 1) := by decide +kernel
theorem dd_Integer_bitCount_24 : decode c_Integer_bitCount 24 = .ok (.iload_n 0, 1) := by decide +kernel
theorem dd_Integer_bitCount_25 : decode c_Integer_bitCount 25 = .ok (.iload_n 0, 1) := by decide +kernel
theorem dd_Integer_bitCount_26 : decode c_Integer_bitCount 26 = .ok (.iconst 4, 1) := by decide +kernel
theorem dd_Integer_bitCount_27 : decode c_Integer_bitCount 27 = .ok (.iushr, 1) := by decide +kernel
theorem dd_Integer_bitCount_28 : decode c_Integer_bitCount 28 = .ok (.iadd, 1) := by decide +kernel
theorem dd_Integer_bitCount_29 : decode c_Integer_bitCount 29 = .ok (.ldc_w 267, 3) := by decide +kernel
theorem dd_Integer_bitCount_32 : decode c_Integer_bitCount 32 = .ok (.iand, 1) := by decide +kernel
theorem dd_Integer_bitCount_33 : decode c_Integer_bitCount 33 = .ok (.istore_n 0, 1) := by decide +kernel
theorem dd_Integer_bitCount_34 : decode c_Integer_bitCount 34 = .ok (.iload_n 0, 1) := by decide +kernel
theorem dd_Integer_bitCount_35 : decode c_Integer_bitCount 35 = .ok (.iload_n 0, 1) := by decide +kernel
theorem dd_Integer_bitCount_36 : decode c_Integer_bitCount 36 = .ok (.bipush 8, 2) := by decide +kernel
theorem dd_Integer_bitCount_38 : decode c_Integer_bitCount 38 = .ok (.iushr, 1) := by decide +kernel
theorem dd_Integer_bitCount_39 : decode c_Integer_bitCount 39 = .ok (.iadd, 1) := by decide +kernel
theorem dd_Integer_bitCount_40 : decode c_Integer_bitCount 40 = .ok (.istore_n 0, 1) := by decide +kernel
theorem dd_Integer_bitCount_41 : decode c_Integer_bitCount 41 = .ok (.iload_n 0, 1) := by decide +kernel
theorem dd_Integer_bitCount_42 : decode c_Integer_bitCount 42 = .ok (.iload_n 0, 1) := by decide +kernel
theorem dd_Integer_bitCount_43 : decode c_Integer_bitCount 43 = .ok (.bipush 16, 2) := by decide +kernel
theorem dd_Integer_bitCount_45 : decode c_Integer_bitCount 45 = .ok (.iushr, 1) := by decide +kernel
theorem dd_Integer_bitCount_46 : decode c_Integer_bitCount 46 = .ok (.iadd, 1) := by decide +kernel
theorem dd_Integer_bitCount_47 : decode c_Integer_bitCount 47 = .ok (.istore_n 0, 1) := by decide +kernel
theorem dd_Integer_bitCount_48 : decode c_Integer_bitCount 48 = .ok (.iload_n 0, 1) := by decide +kernel
theorem dd_Integer_bitCount_49 : decode c_Integer_bitCount 49 = .ok (.bipush 63, 2) := by decide +kernel
theorem dd_Integer_bitCount_51 : decode c_Integer_bitCount 51 = .ok (.iand, 1) := by decide +kernel
theorem dd_Integer_bitCount_52 : decode c_Integer_bitCount 52 = .ok (.ireturn, 1) := by decide +kernel
theorem dd_W_learns_0 : decode c_W_learns 0 = .ok (.aload_n 0, 1) := by decide +kernel
theorem dd_W_learns_1 : decode c_W_learns 1 = .ok (.getfield 42, 3) := by decide +kernel
theorem dd_W_learns_4 : decode c_W_learns 4 = .ok (.iload_n 1, 1) := by decide +kernel
theorem dd_W_learns_5 : decode c_W_learns 5 = .ok (.invokevirtual 163, 3) := by decide +kernel
theorem dd_W_learns_8 : decode c_W_learns 8 = .ok (.ifCond .ne 9, 3) := by decide +kernel
theorem dd_W_learns_11 : decode c_W_learns 11 = .ok (.aload_n 0, 1) := by decide +kernel
theorem dd_W_learns_12 : decode c_W_learns 12 = .ok (.iconst 0, 1) := by decide +kernel
theorem dd_W_learns_13 : decode c_W_learns 13 = .ok (.invokevirtual 195, 3) := by decide +kernel
theorem dd_W_learns_16 : decode c_W_learns 16 = .ok (.ireturn, 1) := by decide +kernel
theorem dd_W_learns_17 : decode c_W_learns 17 = .ok (.aload_n 0, 1) := by decide +kernel
theorem dd_W_learns_18 : decode c_W_learns 18 = .ok (.getfield 49, 3) := by decide +kernel
theorem dd_W_learns_21 : decode c_W_learns 21 = .ok (.iload_n 1, 1) := by decide +kernel
theorem dd_W_learns_22 : decode c_W_learns 22 = .ok (.invokevirtual 178, 3) := by decide +kernel
theorem dd_W_learns_25 : decode c_W_learns 25 = .ok (.ifCond .ne 26, 3) := by decide +kernel
theorem dd_W_learns_28 : decode c_W_learns 28 = .ok (.aload_n 0, 1) := by decide +kernel
theorem dd_W_learns_29 : decode c_W_learns 29 = .ok (.getfield 49, 3) := by decide +kernel
theorem dd_W_learns_32 : decode c_W_learns 32 = .ok (.getfield 185, 3) := by decide +kernel
theorem dd_W_learns_35 : decode c_W_learns 35 = .ok (.aload_n 0, 1) := by decide +kernel
theorem dd_W_learns_36 : decode c_W_learns 36 = .ok (.getfield 49, 3) := by decide +kernel
theorem dd_W_learns_39 : decode c_W_learns 39 = .ok (.getfield 198, 3) := by decide +kernel
theorem dd_W_learns_42 : decode c_W_learns 42 = .ok (.bipush 6, 2) := by decide +kernel
theorem dd_W_learns_44 : decode c_W_learns 44 = .ok (.imul, 1) := by decide +kernel
theorem dd_W_learns_45 : decode c_W_learns 45 = .ok (.iload_n 1, 1) := by decide +kernel
theorem dd_W_learns_46 : decode c_W_learns 46 = .ok (.iadd, 1) := by decide +kernel
theorem dd_W_learns_47 : decode c_W_learns 47 = .ok (.iaload, 1) := by decide +kernel
theorem dd_W_learns_48 : decode c_W_learns 48 = .ok (.ifCond .ne 9, 3) := by decide +kernel
theorem dd_W_learns_51 : decode c_W_learns 51 = .ok (.aload_n 0, 1) := by decide +kernel
theorem dd_W_learns_52 : decode c_W_learns 52 = .ok (.iconst 2, 1) := by decide +kernel
theorem dd_W_learns_53 : decode c_W_learns 53 = .ok (.invokevirtual 195, 3) := by decide +kernel
theorem dd_W_learns_56 : decode c_W_learns 56 = .ok (.ireturn, 1) := by decide +kernel
theorem dd_W_learns_57 : decode c_W_learns 57 = .ok (.aload_n 0, 1) := by decide +kernel
theorem dd_W_learns_58 : decode c_W_learns 58 = .ok (.getfield 49, 3) := by decide +kernel
theorem dd_W_learns_61 : decode c_W_learns 61 = .ok (.getfield 218, 3) := by decide +kernel
theorem dd_W_learns_64 : decode c_W_learns 64 = .ok (.iconst 1, 1) := by decide +kernel
theorem dd_W_learns_65 : decode c_W_learns 65 = .ok (.if_icmp .ge 9, 3) := by decide +kernel
theorem dd_W_learns_68 : decode c_W_learns 68 = .ok (.aload_n 0, 1) := by decide +kernel
theorem dd_W_learns_69 : decode c_W_learns 69 = .ok (.iconst 3, 1) := by decide +kernel
theorem dd_W_learns_70 : decode c_W_learns 70 = .ok (.invokevirtual 195, 3) := by decide +kernel
theorem dd_W_learns_73 : decode c_W_learns 73 = .ok (.ireturn, 1) := by decide +kernel
theorem dd_W_learns_74 : decode c_W_learns 74 = .ok (.aload_n 0, 1) := by decide +kernel
theorem dd_W_learns_75 : decode c_W_learns 75 = .ok (.getfield 49, 3) := by decide +kernel
theorem dd_W_learns_78 : decode c_W_learns 78 = .ok (.iconst 2, 1) := by decide +kernel
theorem dd_W_learns_79 : decode c_W_learns 79 = .ok (.invokevirtual 204, 3) := by decide +kernel
theorem dd_W_learns_82 : decode c_W_learns 82 = .ok (.ifCond .ne 9, 3) := by decide +kernel
theorem dd_W_learns_85 : decode c_W_learns 85 = .ok (.aload_n 0, 1) := by decide +kernel
theorem dd_W_learns_86 : decode c_W_learns 86 = .ok (.iconst 4, 1) := by decide +kernel
theorem dd_W_learns_87 : decode c_W_learns 87 = .ok (.invokevirtual 195, 3) := by decide +kernel
theorem dd_W_learns_90 : decode c_W_learns 90 = .ok (.ireturn, 1) := by decide +kernel
theorem dd_W_learns_91 : decode c_W_learns 91 = .ok (.aload_n 0, 1) := by decide +kernel
theorem dd_W_learns_92 : decode c_W_learns 92 = .ok (.getfield 56, 3) := by decide +kernel
theorem dd_W_learns_95 : decode c_W_learns 95 = .ok (.aload_n 0, 1) := by decide +kernel
theorem dd_W_learns_96 : decode c_W_learns 96 = .ok (.getfield 49, 3) := by decide +kernel
theorem dd_W_learns_99 : decode c_W_learns 99 = .ok (.invokevirtual 207, 3) := by decide +kernel
theorem dd_W_learns_102 : decode c_W_learns 102 = .ok (.aload_n 0, 1) := by decide +kernel
theorem dd_W_learns_103 : decode c_W_learns 103 = .ok (.getfield 49, 3) := by decide +kernel
theorem dd_W_learns_106 : decode c_W_learns 106 = .ok (.dup, 1) := by decide +kernel
theorem dd_W_learns_107 : decode c_W_learns 107 = .ok (.getfield 224, 3) := by decide +kernel
theorem dd_W_learns_110 : decode c_W_learns 110 = .ok (.iconst 2, 1) := by decide +kernel
theorem dd_W_learns_111 : decode c_W_learns 111 = .ok (.iadd, 1) := by decide +kernel
theorem dd_W_learns_112 : decode c_W_learns 112 = .ok (.putfield 224, 3) := by decide +kernel
theorem dd_W_learns_115 : decode c_W_learns 115 = .ok (.aload_n 0, 1) := by decide +kernel
theorem dd_W_learns_116 : decode c_W_learns 116 = .ok (.getfield 49, 3) := by decide +kernel
theorem dd_W_learns_119 : decode c_W_learns 119 = .ok (.dup, 1) := by decide +kernel
theorem dd_W_learns_120 : decode c_W_learns 120 = .ok (.getfield 218, 3) := by decide +kernel
theorem dd_W_learns_123 : decode c_W_learns 123 = .ok (.iconst 1, 1) := by decide +kernel
theorem dd_W_learns_124 : decode c_W_learns 124 = .ok (.isub, 1) := by decide +kernel
theorem dd_W_learns_125 : decode c_W_learns 125 = .ok (.putfield 218, 3) := by decide +kernel
theorem dd_W_learns_128 : decode c_W_learns 128 = .ok (.aload_n 0, 1) := by decide +kernel
theorem dd_W_learns_129 : decode c_W_learns 129 = .ok (.getfield 49, 3) := by decide +kernel
theorem dd_W_learns_132 : decode c_W_learns 132 = .ok (.dup, 1) := by decide +kernel
theorem dd_W_learns_133 : decode c_W_learns 133 = .ok (.getfield 227, 3) := by decide +kernel
theorem dd_W_learns_136 : decode c_W_learns 136 = .ok (.iconst 1, 1) := by decide +kernel
theorem dd_W_learns_137 : decode c_W_learns 137 = .ok (.iload_n 1, 1) := by decide +kernel
theorem dd_W_learns_138 : decode c_W_learns 138 = .ok (.ishl, 1) := by decide +kernel
theorem dd_W_learns_139 : decode c_W_learns 139 = .ok (.ior, 1) := by decide +kernel
theorem dd_W_learns_140 : decode c_W_learns 140 = .ok (.putfield 227, 3) := by decide +kernel
theorem dd_W_learns_143 : decode c_W_learns 143 = .ok (.aload_n 0, 1) := by decide +kernel
theorem dd_W_learns_144 : decode c_W_learns 144 = .ok (.getfield 49, 3) := by decide +kernel
theorem dd_W_learns_147 : decode c_W_learns 147 = .ok (.getfield 227, 3) := by decide +kernel
theorem dd_W_learns_150 : decode c_W_learns 150 = .ok (.invokestatic 230, 3) := by decide +kernel
theorem dd_W_learns_153 : decode c_W_learns 153 = .ok (.ireturn, 1) := by decide +kernel
theorem dd_M_learns_0 : decode c_M_learns 0 = .ok (.aload_n 0, 1) := by decide +kernel
theorem dd_M_learns_1 : decode c_M_learns 1 = .ok (.aload_n 0, 1) := by decide +kernel
theorem dd_M_learns_2 : decode c_M_learns 2 = .ok (.iload_n 1, 1) := by decide +kernel
theorem dd_M_learns_3 : decode c_M_learns 3 = .ok (.invokevirtual 306, 3) := by decide +kernel
theorem dd_M_learns_6 : decode c_M_learns 6 = .ok (.ifCond .ne 7, 3) := by decide +kernel
theorem dd_M_learns_9 : decode c_M_learns 9 = .ok (.iconst 0, 1) := by decide +kernel
theorem dd_M_learns_10 : decode c_M_learns 10 = .ok (.goto 58, 3) := by decide +kernel
theorem dd_M_learns_13 : decode c_M_learns 13 = .ok (.aload_n 0, 1) := by decide +kernel
theorem dd_M_learns_14 : decode c_M_learns 14 = .ok (.iload_n 1, 1) := by decide +kernel
theorem dd_M_learns_15 : decode c_M_learns 15 = .ok (.invokevirtual 309, 3) := by decide +kernel
theorem dd_M_learns_18 : decode c_M_learns 18 = .ok (.ifCond .ne 18, 3) := by decide +kernel
theorem dd_M_learns_21 : decode c_M_learns 21 = .ok (.aload_n 0, 1) := by decide +kernel
theorem dd_M_learns_22 : decode c_M_learns 22 = .ok (.aload_n 0, 1) := by decide +kernel
theorem dd_M_learns_23 : decode c_M_learns 23 = .ok (.getfield 58, 3) := by decide +kernel
theorem dd_M_learns_26 : decode c_M_learns 26 = .ok (.bipush 42, 2) := by decide +kernel
theorem dd_M_learns_28 : decode c_M_learns 28 = .ok (.iaload, 1) := by decide +kernel
theorem dd_M_learns_29 : decode c_M_learns 29 = .ok (.iload_n 1, 1) := by decide +kernel
theorem dd_M_learns_30 : decode c_M_learns 30 = .ok (.invokevirtual 277, 3) := by decide +kernel
theorem dd_M_learns_33 : decode c_M_learns 33 = .ok (.ifCond .ne 7, 3) := by decide +kernel
theorem dd_M_learns_36 : decode c_M_learns 36 = .ok (.iconst 2, 1) := by decide +kernel
theorem dd_M_learns_37 : decode c_M_learns 37 = .ok (.goto 31, 3) := by decide +kernel
theorem dd_M_learns_40 : decode c_M_learns 40 = .ok (.aload_n 0, 1) := by decide +kernel
theorem dd_M_learns_41 : decode c_M_learns 41 = .ok (.getfield 58, 3) := by decide +kernel
theorem dd_M_learns_44 : decode c_M_learns 44 = .ok (.bipush 44, 2) := by decide +kernel
theorem dd_M_learns_46 : decode c_M_learns 46 = .ok (.iaload, 1) := by decide +kernel
theorem dd_M_learns_47 : decode c_M_learns 47 = .ok (.iconst 1, 1) := by decide +kernel
theorem dd_M_learns_48 : decode c_M_learns 48 = .ok (.if_icmp .ge 7, 3) := by decide +kernel
theorem dd_M_learns_51 : decode c_M_learns 51 = .ok (.iconst 3, 1) := by decide +kernel
theorem dd_M_learns_52 : decode c_M_learns 52 = .ok (.goto 16, 3) := by decide +kernel
theorem dd_M_learns_55 : decode c_M_learns 55 = .ok (.aload_n 0, 1) := by decide +kernel
theorem dd_M_learns_56 : decode c_M_learns 56 = .ok (.iconst 2, 1) := by decide +kernel
theorem dd_M_learns_57 : decode c_M_learns 57 = .ok (.invokevirtual 312, 3) := by decide +kernel
theorem dd_M_learns_60 : decode c_M_learns 60 = .ok (.ifCond .eq 7, 3) := by decide +kernel
theorem dd_M_learns_63 : decode c_M_learns 63 = .ok (.iconst 4, 1) := by decide +kernel
theorem dd_M_learns_64 : decode c_M_learns 64 = .ok (.goto 4, 3) := by decide +kernel
theorem dd_M_learns_67 : decode c_M_learns 67 = .ok (.iconst (-1), 1) := by decide +kernel
theorem dd_M_learns_68 : decode c_M_learns 68 = .ok (.invokevirtual 318, 3) := by decide +kernel
theorem dd_M_learns_71 : decode c_M_learns 71 = .ok (.ifCond .eq 5, 3) := by decide +kernel
theorem dd_M_learns_74 : decode c_M_learns 74 = .ok (.iconst (-1), 1) := by decide +kernel
theorem dd_M_learns_75 : decode c_M_learns 75 = .ok (.ireturn, 1) := by decide +kernel
theorem dd_M_learns_76 : decode c_M_learns 76 = .ok (.aload_n 0, 1) := by decide +kernel
theorem dd_M_learns_77 : decode c_M_learns 77 = .ok (.invokevirtual 321, 3) := by decide +kernel
theorem dd_M_learns_80 : decode c_M_learns 80 = .ok (.aload_n 0, 1) := by decide +kernel
theorem dd_M_learns_81 : decode c_M_learns 81 = .ok (.getfield 58, 3) := by decide +kernel
theorem dd_M_learns_84 : decode c_M_learns 84 = .ok (.bipush 43, 2) := by decide +kernel
theorem dd_M_learns_86 : decode c_M_learns 86 = .ok (.dup2, 1) := by decide +kernel
theorem dd_M_learns_87 : decode c_M_learns 87 = .ok (.iaload, 1) := by decide +kernel
theorem dd_M_learns_88 : decode c_M_learns 88 = .ok (.iconst 1, 1) := by decide +kernel
theorem dd_M_learns_89 : decode c_M_learns 89 = .ok (.iload_n 1, 1) := by decide +kernel
theorem dd_M_learns_90 : decode c_M_learns 90 = .ok (.ishl, 1) := by decide +kernel
theorem dd_M_learns_91 : decode c_M_learns 91 = .ok (.ior, 1) := by decide +kernel
theorem dd_M_learns_92 : decode c_M_learns 92 = .ok (.iastore, 1) := by decide +kernel
theorem dd_M_learns_93 : decode c_M_learns 93 = .ok (.aload_n 0, 1) := by decide +kernel
theorem dd_M_learns_94 : decode c_M_learns 94 = .ok (.getfield 58, 3) := by decide +kernel
theorem dd_M_learns_97 : decode c_M_learns 97 = .ok (.bipush 44, 2) := by decide +kernel
theorem dd_M_learns_99 : decode c_M_learns 99 = .ok (.dup2, 1) := by decide +kernel
theorem dd_M_learns_100 : decode c_M_learns 100 = .ok (.iaload, 1) := by decide +kernel
theorem dd_M_learns_101 : decode c_M_learns 101 = .ok (.iconst 1, 1) := by decide +kernel
theorem dd_M_learns_102 : decode c_M_learns 102 = .ok (.isub, 1) := by decide +kernel
theorem dd_M_learns_103 : decode c_M_learns 103 = .ok (.iastore, 1) := by decide +kernel
theorem dd_M_learns_104 : decode c_M_learns 104 = .ok (.aload_n 0, 1) := by decide +kernel
theorem dd_M_learns_105 : decode c_M_learns 105 = .ok (.getfield 58, 3) := by decide +kernel
theorem dd_M_learns_108 : decode c_M_learns 108 = .ok (.bipush 45, 2) := by decide +kernel
theorem dd_M_learns_110 : decode c_M_learns 110 = .ok (.dup2, 1) := by decide +kernel
theorem dd_M_learns_111 : decode c_M_learns 111 = .ok (.iaload, 1) := by decide +kernel
theorem dd_M_learns_112 : decode c_M_learns 112 = .ok (.iconst 2, 1) := by decide +kernel
theorem dd_M_learns_113 : decode c_M_learns 113 = .ok (.iadd, 1) := by decide +kernel
theorem dd_M_learns_114 : decode c_M_learns 114 = .ok (.iastore, 1) := by decide +kernel
theorem dd_M_learns_115 : decode c_M_learns 115 = .ok (.aload_n 0, 1) := by decide +kernel
theorem dd_M_learns_116 : decode c_M_learns 116 = .ok (.getfield 58, 3) := by decide +kernel
theorem dd_M_learns_119 : decode c_M_learns 119 = .ok (.bipush 43, 2) := by decide +kernel
theorem dd_M_learns_121 : decode c_M_learns 121 = .ok (.iaload, 1) := by decide +kernel
theorem dd_M_learns_122 : decode c_M_learns 122 = .ok (.invokestatic 330, 3) := by decide +kernel
theorem dd_M_learns_125 : decode c_M_learns 125 = .ok (.ireturn, 1) := by decide +kernel
theorem dd_W_ties_0 : decode c_W_ties 0 = .ok (.aload_n 0, 1) := by decide +kernel
theorem dd_W_ties_1 : decode c_W_ties 1 = .ok (.getfield 42, 3) := by decide +kernel
theorem dd_W_ties_4 : decode c_W_ties 4 = .ok (.iload_n 1, 1) := by decide +kernel
theorem dd_W_ties_5 : decode c_W_ties 5 = .ok (.invokevirtual 163, 3) := by decide +kernel
theorem dd_W_ties_8 : decode c_W_ties 8 = .ok (.ifCond .ne 9, 3) := by decide +kernel
theorem dd_W_ties_11 : decode c_W_ties 11 = .ok (.aload_n 0, 1) := by decide +kernel
theorem dd_W_ties_12 : decode c_W_ties 12 = .ok (.iconst 0, 1) := by decide +kernel
theorem dd_W_ties_13 : decode c_W_ties 13 = .ok (.invokevirtual 195, 3) := by decide +kernel
theorem dd_W_ties_16 : decode c_W_ties 16 = .ok (.ireturn, 1) := by decide +kernel
theorem dd_W_ties_17 : decode c_W_ties 17 = .ok (.aload_n 0, 1) := by decide +kernel
theorem dd_W_ties_18 : decode c_W_ties 18 = .ok (.getfield 49, 3) := by decide +kernel
theorem dd_W_ties_21 : decode c_W_ties 21 = .ok (.iload_n 1, 1) := by decide +kernel
theorem dd_W_ties_22 : decode c_W_ties 22 = .ok (.invokevirtual 178, 3) := by decide +kernel
theorem dd_W_ties_25 : decode c_W_ties 25 = .ok (.ifCond .eq 17, 3) := by decide +kernel
theorem dd_W_ties_28 : decode c_W_ties 28 = .ok (.aload_n 0, 1) := by decide +kernel
theorem dd_W_ties_29 : decode c_W_ties 29 = .ok (.getfield 49, 3) := by decide +kernel
theorem dd_W_ties_32 : decode c_W_ties 32 = .ok (.getfield 172, 3) := by decide +kernel
theorem dd_W_ties_35 : decode c_W_ties 35 = .ok (.iload_n 1, 1) := by decide +kernel
theorem dd_W_ties_36 : decode c_W_ties 36 = .ok (.iaload, 1) := by decide +kernel
theorem dd_W_ties_37 : decode c_W_ties 37 = .ok (.bipush 9, 2) := by decide +kernel
theorem dd_W_ties_39 : decode c_W_ties 39 = .ok (.if_icmp .lt 9, 3) := by decide +kernel
theorem dd_W_ties_42 : decode c_W_ties 42 = .ok (.aload_n 0, 1) := by decide +kernel
theorem dd_W_ties_43 : decode c_W_ties 43 = .ok (.iconst 2, 1) := by decide +kernel
theorem dd_W_ties_44 : decode c_W_ties 44 = .ok (.invokevirtual 195, 3) := by decide +kernel
theorem dd_W_ties_47 : decode c_W_ties 47 = .ok (.ireturn, 1) := by decide +kernel
theorem dd_W_ties_48 : decode c_W_ties 48 = .ok (.aload_n 0, 1) := by decide +kernel
theorem dd_W_ties_49 : decode c_W_ties 49 = .ok (.getfield 49, 3) := by decide +kernel
theorem dd_W_ties_52 : decode c_W_ties 52 = .ok (.getfield 218, 3) := by decide +kernel
theorem dd_W_ties_55 : decode c_W_ties 55 = .ok (.iconst 2, 1) := by decide +kernel
theorem dd_W_ties_56 : decode c_W_ties 56 = .ok (.if_icmp .ge 9, 3) := by decide +kernel
theorem dd_W_ties_59 : decode c_W_ties 59 = .ok (.aload_n 0, 1) := by decide +kernel
theorem dd_W_ties_60 : decode c_W_ties 60 = .ok (.iconst 3, 1) := by decide +kernel
theorem dd_W_ties_61 : decode c_W_ties 61 = .ok (.invokevirtual 195, 3) := by decide +kernel
theorem dd_W_ties_64 : decode c_W_ties 64 = .ok (.ireturn, 1) := by decide +kernel
theorem dd_W_ties_65 : decode c_W_ties 65 = .ok (.aload_n 0, 1) := by decide +kernel
theorem dd_W_ties_66 : decode c_W_ties 66 = .ok (.getfield 56, 3) := by decide +kernel
theorem dd_W_ties_69 : decode c_W_ties 69 = .ok (.aload_n 0, 1) := by decide +kernel
theorem dd_W_ties_70 : decode c_W_ties 70 = .ok (.getfield 49, 3) := by decide +kernel
theorem dd_W_ties_73 : decode c_W_ties 73 = .ok (.invokevirtual 207, 3) := by decide +kernel
theorem dd_W_ties_76 : decode c_W_ties 76 = .ok (.aload_n 0, 1) := by decide +kernel
theorem dd_W_ties_77 : decode c_W_ties 77 = .ok (.getfield 49, 3) := by decide +kernel
theorem dd_W_ties_80 : decode c_W_ties 80 = .ok (.dup, 1) := by decide +kernel
theorem dd_W_ties_81 : decode c_W_ties 81 = .ok (.getfield 218, 3) := by decide +kernel
theorem dd_W_ties_84 : decode c_W_ties 84 = .ok (.iconst 2, 1) := by decide +kernel
theorem dd_W_ties_85 : decode c_W_ties 85 = .ok (.isub, 1) := by decide +kernel
theorem dd_W_ties_86 : decode c_W_ties 86 = .ok (.putfield 218, 3) := by decide +kernel
theorem dd_W_ties_89 : decode c_W_ties 89 = .ok (.aload_n 0, 1) := by decide +kernel
theorem dd_W_ties_90 : decode c_W_ties 90 = .ok (.getfield 49, 3) := by decide +kernel
theorem dd_W_ties_93 : decode c_W_ties 93 = .ok (.getfield 172, 3) := by decide +kernel
theorem dd_W_ties_96 : decode c_W_ties 96 = .ok (.iload_n 1, 1) := by decide +kernel
theorem dd_W_ties_97 : decode c_W_ties 97 = .ok (.dup2, 1) := by decide +kernel
theorem dd_W_ties_98 : decode c_W_ties 98 = .ok (.iaload, 1) := by decide +kernel
theorem dd_W_ties_99 : decode c_W_ties 99 = .ok (.iconst 1, 1) := by decide +kernel
theorem dd_W_ties_100 : decode c_W_ties 100 = .ok (.iadd, 1) := by decide +kernel
theorem dd_W_ties_101 : decode c_W_ties 101 = .ok (.iastore, 1) := by decide +kernel
theorem dd_W_ties_102 : decode c_W_ties 102 = .ok (.aload_n 0, 1) := by decide +kernel
theorem dd_W_ties_103 : decode c_W_ties 103 = .ok (.getfield 49, 3) := by decide +kernel
theorem dd_W_ties_106 : decode c_W_ties 106 = .ok (.getfield 172, 3) := by decide +kernel
theorem dd_W_ties_109 : decode c_W_ties 109 = .ok (.iload_n 1, 1) := by decide +kernel
theorem dd_W_ties_110 : decode c_W_ties 110 = .ok (.iaload, 1) := by decide +kernel
theorem dd_W_ties_111 : decode c_W_ties 111 = .ok (.ireturn, 1) := by decide +kernel
theorem dd_M_ties_0 : decode c_M_ties 0 = .ok (.aload_n 0, 1) := by decide +kernel
theorem dd_M_ties_1 : decode c_M_ties 1 = .ok (.aload_n 0, 1) := by decide +kernel
theorem dd_M_ties_2 : decode c_M_ties 2 = .ok (.iload_n 1, 1) := by decide +kernel
theorem dd_M_ties_3 : decode c_M_ties 3 = .ok (.invokevirtual 306, 3) := by decide +kernel
theorem dd_M_ties_6 : decode c_M_ties 6 = .ok (.ifCond .ne 7, 3) := by decide +kernel
theorem dd_M_ties_9 : decode c_M_ties 9 = .ok (.iconst 0, 1) := by decide +kernel
theorem dd_M_ties_10 : decode c_M_ties 10 = .ok (.goto 45, 3) := by decide +kernel
theorem dd_M_ties_13 : decode c_M_ties 13 = .ok (.aload_n 0, 1) := by decide +kernel
theorem dd_M_ties_14 : decode c_M_ties 14 = .ok (.iload_n 1, 1) := by decide +kernel
theorem dd_M_ties_15 : decode c_M_ties 15 = .ok (.invokevirtual 309, 3) := by decide +kernel
theorem dd_M_ties_18 : decode c_M_ties 18 = .ok (.ifCond .eq 17, 3) := by decide +kernel
theorem dd_M_ties_21 : decode c_M_ties 21 = .ok (.aload_n 0, 1) := by decide +kernel
theorem dd_M_ties_22 : decode c_M_ties 22 = .ok (.getfield 58, 3) := by decide +kernel
theorem dd_M_ties_25 : decode c_M_ties 25 = .ok (.bipush 36, 2) := by decide +kernel
theorem dd_M_ties_27 : decode c_M_ties 27 = .ok (.iload_n 1, 1) := by decide +kernel
theorem dd_M_ties_28 : decode c_M_ties 28 = .ok (.iadd, 1) := by decide +kernel
theorem dd_M_ties_29 : decode c_M_ties 29 = .ok (.iaload, 1) := by decide +kernel
theorem dd_M_ties_30 : decode c_M_ties 30 = .ok (.bipush 9, 2) := by decide +kernel
theorem dd_M_ties_32 : decode c_M_ties 32 = .ok (.if_icmp .ne 7, 3) := by decide +kernel
theorem dd_M_ties_35 : decode c_M_ties 35 = .ok (.iconst 2, 1) := by decide +kernel
theorem dd_M_ties_36 : decode c_M_ties 36 = .ok (.goto 19, 3) := by decide +kernel
theorem dd_M_ties_39 : decode c_M_ties 39 = .ok (.aload_n 0, 1) := by decide +kernel
theorem dd_M_ties_40 : decode c_M_ties 40 = .ok (.getfield 58, 3) := by decide +kernel
theorem dd_M_ties_43 : decode c_M_ties 43 = .ok (.bipush 44, 2) := by decide +kernel
theorem dd_M_ties_45 : decode c_M_ties 45 = .ok (.iaload, 1) := by decide +kernel
theorem dd_M_ties_46 : decode c_M_ties 46 = .ok (.iconst 2, 1) := by decide +kernel
theorem dd_M_ties_47 : decode c_M_ties 47 = .ok (.if_icmp .ge 7, 3) := by decide +kernel
theorem dd_M_ties_50 : decode c_M_ties 50 = .ok (.iconst 3, 1) := by decide +kernel
theorem dd_M_ties_51 : decode c_M_ties 51 = .ok (.goto 4, 3) := by decide +kernel
theorem dd_M_ties_54 : decode c_M_ties 54 = .ok (.iconst (-1), 1) := by decide +kernel
theorem dd_M_ties_55 : decode c_M_ties 55 = .ok (.invokevirtual 318, 3) := by decide +kernel
theorem dd_M_ties_58 : decode c_M_ties 58 = .ok (.ifCond .eq 5, 3) := by decide +kernel
theorem dd_M_ties_61 : decode c_M_ties 61 = .ok (.iconst (-1), 1) := by decide +kernel
theorem dd_M_ties_62 : decode c_M_ties 62 = .ok (.ireturn, 1) := by decide +kernel
theorem dd_M_ties_63 : decode c_M_ties 63 = .ok (.aload_n 0, 1) := by decide +kernel
theorem dd_M_ties_64 : decode c_M_ties 64 = .ok (.invokevirtual 321, 3) := by decide +kernel
theorem dd_M_ties_67 : decode c_M_ties 67 = .ok (.aload_n 0, 1) := by decide +kernel
theorem dd_M_ties_68 : decode c_M_ties 68 = .ok (.getfield 58, 3) := by decide +kernel
theorem dd_M_ties_71 : decode c_M_ties 71 = .ok (.bipush 36, 2) := by decide +kernel
theorem dd_M_ties_73 : decode c_M_ties 73 = .ok (.iload_n 1, 1) := by decide +kernel
theorem dd_M_ties_74 : decode c_M_ties 74 = .ok (.iadd, 1) := by decide +kernel
theorem dd_M_ties_75 : decode c_M_ties 75 = .ok (.dup2, 1) := by decide +kernel
theorem dd_M_ties_76 : decode c_M_ties 76 = .ok (.iaload, 1) := by decide +kernel
theorem dd_M_ties_77 : decode c_M_ties 77 = .ok (.iconst 1, 1) := by decide +kernel
theorem dd_M_ties_78 : decode c_M_ties 78 = .ok (.iadd, 1) := by decide +kernel
theorem dd_M_ties_79 : decode c_M_ties 79 = .ok (.iastore, 1) := by decide +kernel
theorem dd_M_ties_80 : decode c_M_ties 80 = .ok (.aload_n 0, 1) := by decide +kernel
theorem dd_M_ties_81 : decode c_M_ties 81 = .ok (.getfield 58, 3) := by decide +kernel
theorem dd_M_ties_84 : decode c_M_ties 84 = .ok (.bipush 44, 2) := by decide +kernel
theorem dd_M_ties_86 : decode c_M_ties 86 = .ok (.dup2, 1) := by decide +kernel
theorem dd_M_ties_87 : decode c_M_ties 87 = .ok (.iaload, 1) := by decide +kernel
theorem dd_M_ties_88 : decode c_M_ties 88 = .ok (.iconst 2, 1) := by decide +kernel
theorem dd_M_ties_89 : decode c_M_ties 89 = .ok (.isub, 1) := by decide +kernel
theorem dd_M_ties_90 : decode c_M_ties 90 = .ok (.iastore, 1) := by decide +kernel
theorem dd_M_ties_91 : decode c_M_ties 91 = .ok (.aload_n 0, 1) := by decide +kernel
theorem dd_M_ties_92 : decode c_M_ties 92 = .ok (.getfield 58, 3) := by decide +kernel
theorem dd_M_ties_95 : decode c_M_ties 95 = .ok (.bipush 36, 2) := by decide +kernel
theorem dd_M_ties_97 : decode c_M_ties 97 = .ok (.iload_n 1, 1) := by decide +kernel
theorem dd_M_ties_98 : decode c_M_ties 98 = .ok (.iadd, 1) := by decide +kernel
theorem dd_M_ties_99 : decode c_M_ties 99 = .ok (.iaload, 1) := by decide +kernel
theorem dd_M_ties_100 : decode c_M_ties 100 = .ok (.ireturn, 1) := by decide +kernel
theorem dd_Coast_isTold_0 : decode c_Coast_isTold 0 = .ok (.aload_n 0, 1) := by decide +kernel
theorem dd_Coast_isTold_1 : decode c_Coast_isTold 1 = .ok (.getfield 30, 3) := by decide +kernel
theorem dd_Coast_isTold_4 : decode c_Coast_isTold 4 = .ok (.ifCond .le 7, 3) := by decide +kernel
theorem dd_Coast_isTold_7 : decode c_Coast_isTold 7 = .ok (.iconst 1, 1) := by decide +kernel
theorem dd_Coast_isTold_8 : decode c_Coast_isTold 8 = .ok (.goto 4, 3) := by decide +kernel
theorem dd_Coast_isTold_11 : decode c_Coast_isTold 11 = .ok (.iconst 0, 1) := by decide +kernel
theorem dd_Coast_isTold_12 : decode c_Coast_isTold 12 = .ok (.ireturn, 1) := by decide +kernel
theorem dd_W_rest_0 : decode c_W_rest 0 = .ok (.aload_n 0, 1) := by decide +kernel
theorem dd_W_rest_1 : decode c_W_rest 1 = .ok (.getfield 42, 3) := by decide +kernel
theorem dd_W_rest_4 : decode c_W_rest 4 = .ok (.invokevirtual 235, 3) := by decide +kernel
theorem dd_W_rest_7 : decode c_W_rest 7 = .ok (.ifCond .ne 9, 3) := by decide +kernel
theorem dd_W_rest_10 : decode c_W_rest 10 = .ok (.aload_n 0, 1) := by decide +kernel
theorem dd_W_rest_11 : decode c_W_rest 11 = .ok (.iconst 0, 1) := by decide +kernel
theorem dd_W_rest_12 : decode c_W_rest 12 = .ok (.invokevirtual 195, 3) := by decide +kernel
theorem dd_W_rest_15 : decode c_W_rest 15 = .ok (.ireturn, 1) := by decide +kernel
theorem dd_W_rest_16 : decode c_W_rest 16 = .ok (.aload_n 0, 1) := by decide +kernel
theorem dd_W_rest_17 : decode c_W_rest 17 = .ok (.getfield 42, 3) := by decide +kernel
theorem dd_W_rest_20 : decode c_W_rest 20 = .ok (.getfield 160, 3) := by decide +kernel
theorem dd_W_rest_23 : decode c_W_rest 23 = .ok (.aload_n 0, 1) := by decide +kernel
theorem dd_W_rest_24 : decode c_W_rest 24 = .ok (.getfield 49, 3) := by decide +kernel
theorem dd_W_rest_27 : decode c_W_rest 27 = .ok (.getfield 198, 3) := by decide +kernel
theorem dd_W_rest_30 : decode c_W_rest 30 = .ok (.iaload, 1) := by decide +kernel
theorem dd_W_rest_31 : decode c_W_rest 31 = .ok (.iconst 5, 1) := by decide +kernel
theorem dd_W_rest_32 : decode c_W_rest 32 = .ok (.if_icmp .ge 7, 3) := by decide +kernel
theorem dd_W_rest_35 : decode c_W_rest 35 = .ok (.iconst 1, 1) := by decide +kernel
theorem dd_W_rest_36 : decode c_W_rest 36 = .ok (.goto 4, 3) := by decide +kernel
theorem dd_W_rest_39 : decode c_W_rest 39 = .ok (.iconst 0, 1) := by decide +kernel
theorem dd_W_rest_40 : decode c_W_rest 40 = .ok (.istore_n 1, 1) := by decide +kernel
theorem dd_W_rest_41 : decode c_W_rest 41 = .ok (.aload_n 0, 1) := by decide +kernel
theorem dd_W_rest_42 : decode c_W_rest 42 = .ok (.getfield 49, 3) := by decide +kernel
theorem dd_W_rest_45 : decode c_W_rest 45 = .ok (.getfield 218, 3) := by decide +kernel
theorem dd_W_rest_48 : decode c_W_rest 48 = .ok (.iload_n 1, 1) := by decide +kernel
theorem dd_W_rest_49 : decode c_W_rest 49 = .ok (.if_icmp .ge 9, 3) := by decide +kernel
theorem dd_W_rest_52 : decode c_W_rest 52 = .ok (.aload_n 0, 1) := by decide +kernel
theorem dd_W_rest_53 : decode c_W_rest 53 = .ok (.iconst 3, 1) := by decide +kernel
theorem dd_W_rest_54 : decode c_W_rest 54 = .ok (.invokevirtual 195, 3) := by decide +kernel
theorem dd_W_rest_57 : decode c_W_rest 57 = .ok (.ireturn, 1) := by decide +kernel
theorem dd_W_rest_58 : decode c_W_rest 58 = .ok (.aload_n 0, 1) := by decide +kernel
theorem dd_W_rest_59 : decode c_W_rest 59 = .ok (.getfield 49, 3) := by decide +kernel
theorem dd_W_rest_62 : decode c_W_rest 62 = .ok (.iconst 1, 1) := by decide +kernel
theorem dd_W_rest_63 : decode c_W_rest 63 = .ok (.invokevirtual 204, 3) := by decide +kernel
theorem dd_W_rest_66 : decode c_W_rest 66 = .ok (.ifCond .ne 9, 3) := by decide +kernel
theorem dd_W_rest_69 : decode c_W_rest 69 = .ok (.aload_n 0, 1) := by decide +kernel
theorem dd_W_rest_70 : decode c_W_rest 70 = .ok (.iconst 4, 1) := by decide +kernel
theorem dd_W_rest_71 : decode c_W_rest 71 = .ok (.invokevirtual 195, 3) := by decide +kernel
theorem dd_W_rest_74 : decode c_W_rest 74 = .ok (.ireturn, 1) := by decide +kernel
theorem dd_W_rest_75 : decode c_W_rest 75 = .ok (.aload_n 0, 1) := by decide +kernel
theorem dd_W_rest_76 : decode c_W_rest 76 = .ok (.getfield 56, 3) := by decide +kernel
theorem dd_W_rest_79 : decode c_W_rest 79 = .ok (.aload_n 0, 1) := by decide +kernel
theorem dd_W_rest_80 : decode c_W_rest 80 = .ok (.getfield 49, 3) := by decide +kernel
theorem dd_W_rest_83 : decode c_W_rest 83 = .ok (.invokevirtual 207, 3) := by decide +kernel
theorem dd_W_rest_86 : decode c_W_rest 86 = .ok (.aload_n 0, 1) := by decide +kernel
theorem dd_W_rest_87 : decode c_W_rest 87 = .ok (.getfield 49, 3) := by decide +kernel
theorem dd_W_rest_90 : decode c_W_rest 90 = .ok (.dup, 1) := by decide +kernel
theorem dd_W_rest_91 : decode c_W_rest 91 = .ok (.getfield 224, 3) := by decide +kernel
theorem dd_W_rest_94 : decode c_W_rest 94 = .ok (.iconst 1, 1) := by decide +kernel
theorem dd_W_rest_95 : decode c_W_rest 95 = .ok (.iadd, 1) := by decide +kernel
theorem dd_W_rest_96 : decode c_W_rest 96 = .ok (.putfield 224, 3) := by decide +kernel
theorem dd_W_rest_99 : decode c_W_rest 99 = .ok (.aload_n 0, 1) := by decide +kernel
theorem dd_W_rest_100 : decode c_W_rest 100 = .ok (.getfield 49, 3) := by decide +kernel
theorem dd_W_rest_103 : decode c_W_rest 103 = .ok (.dup, 1) := by decide +kernel
theorem dd_W_rest_104 : decode c_W_rest 104 = .ok (.getfield 218, 3) := by decide +kernel
theorem dd_W_rest_107 : decode c_W_rest 107 = .ok (.iload_n 1, 1) := by decide +kernel
theorem dd_W_rest_108 : decode c_W_rest 108 = .ok (.isub, 1) := by decide +kernel
theorem dd_W_rest_109 : decode c_W_rest 109 = .ok (.putfield 218, 3) := by decide +kernel
theorem dd_W_rest_112 : decode c_W_rest 112 = .ok (.aload_n 0, 1) := by decide +kernel
theorem dd_W_rest_113 : decode c_W_rest 113 = .ok (.getfield 49, 3) := by decide +kernel
theorem dd_W_rest_116 : decode c_W_rest 116 = .ok (.getfield 218, 3) := by decide +kernel
theorem dd_W_rest_119 : decode c_W_rest 119 = .ok (.ireturn, 1) := by decide +kernel
theorem dd_M_rest_0 : decode c_M_rest 0 = .ok (.aload_n 0, 1) := by decide +kernel
theorem dd_M_rest_1 : decode c_M_rest 1 = .ok (.getfield 242, 3) := by decide +kernel
theorem dd_M_rest_4 : decode c_M_rest 4 = .ok (.ifCond .le 23, 3) := by decide +kernel
theorem dd_M_rest_7 : decode c_M_rest 7 = .ok (.aload_n 0, 1) := by decide +kernel
theorem dd_M_rest_8 : decode c_M_rest 8 = .ok (.aload_n 0, 1) := by decide +kernel
theorem dd_M_rest_9 : decode c_M_rest 9 = .ok (.getfield 58, 3) := by decide +kernel
theorem dd_M_rest_12 : decode c_M_rest 12 = .ok (.bipush 42, 2) := by decide +kernel
theorem dd_M_rest_14 : decode c_M_rest 14 = .ok (.iaload, 1) := by decide +kernel
theorem dd_M_rest_15 : decode c_M_rest 15 = .ok (.iconst 2, 1) := by decide +kernel
theorem dd_M_rest_16 : decode c_M_rest 16 = .ok (.invokevirtual 251, 3) := by decide +kernel
theorem dd_M_rest_19 : decode c_M_rest 19 = .ok (.iconst 5, 1) := by decide +kernel
theorem dd_M_rest_20 : decode c_M_rest 20 = .ok (.if_icmp .ge 7, 3) := by decide +kernel
theorem dd_M_rest_23 : decode c_M_rest 23 = .ok (.iconst 1, 1) := by decide +kernel
theorem dd_M_rest_24 : decode c_M_rest 24 = .ok (.goto 4, 3) := by decide +kernel
theorem dd_M_rest_27 : decode c_M_rest 27 = .ok (.iconst 0, 1) := by decide +kernel
theorem dd_M_rest_28 : decode c_M_rest 28 = .ok (.istore_n 1, 1) := by decide +kernel
theorem dd_M_rest_29 : decode c_M_rest 29 = .ok (.aload_n 0, 1) := by decide +kernel
theorem dd_M_rest_30 : decode c_M_rest 30 = .ok (.aload_n 0, 1) := by decide +kernel
theorem dd_M_rest_31 : decode c_M_rest 31 = .ok (.getfield 242, 3) := by decide +kernel
theorem dd_M_rest_34 : decode c_M_rest 34 = .ok (.ifCond .ne 7, 3) := by decide +kernel
theorem dd_M_rest_37 : decode c_M_rest 37 = .ok (.iconst 0, 1) := by decide +kernel
theorem dd_M_rest_38 : decode c_M_rest 38 = .ok (.goto 31, 3) := by decide +kernel
theorem dd_M_rest_41 : decode c_M_rest 41 = .ok (.aload_n 0, 1) := by decide +kernel
theorem dd_M_rest_42 : decode c_M_rest 42 = .ok (.getfield 58, 3) := by decide +kernel
theorem dd_M_rest_45 : decode c_M_rest 45 = .ok (.bipush 44, 2) := by decide +kernel
theorem dd_M_rest_47 : decode c_M_rest 47 = .ok (.iaload, 1) := by decide +kernel
theorem dd_M_rest_48 : decode c_M_rest 48 = .ok (.iload_n 1, 1) := by decide +kernel
theorem dd_M_rest_49 : decode c_M_rest 49 = .ok (.if_icmp .ge 7, 3) := by decide +kernel
theorem dd_M_rest_52 : decode c_M_rest 52 = .ok (.iconst 3, 1) := by decide +kernel
theorem dd_M_rest_53 : decode c_M_rest 53 = .ok (.goto 16, 3) := by decide +kernel
theorem dd_M_rest_56 : decode c_M_rest 56 = .ok (.aload_n 0, 1) := by decide +kernel
theorem dd_M_rest_57 : decode c_M_rest 57 = .ok (.iconst 1, 1) := by decide +kernel
theorem dd_M_rest_58 : decode c_M_rest 58 = .ok (.invokevirtual 312, 3) := by decide +kernel
theorem dd_M_rest_61 : decode c_M_rest 61 = .ok (.ifCond .eq 7, 3) := by decide +kernel
theorem dd_M_rest_64 : decode c_M_rest 64 = .ok (.iconst 4, 1) := by decide +kernel
theorem dd_M_rest_65 : decode c_M_rest 65 = .ok (.goto 4, 3) := by decide +kernel
theorem dd_M_rest_68 : decode c_M_rest 68 = .ok (.iconst (-1), 1) := by decide +kernel
theorem dd_M_rest_69 : decode c_M_rest 69 = .ok (.invokevirtual 318, 3) := by decide +kernel
theorem dd_M_rest_72 : decode c_M_rest 72 = .ok (.ifCond .eq 5, 3) := by decide +kernel
theorem dd_M_rest_75 : decode c_M_rest 75 = .ok (.iconst (-1), 1) := by decide +kernel
theorem dd_M_rest_76 : decode c_M_rest 76 = .ok (.ireturn, 1) := by decide +kernel
theorem dd_M_rest_77 : decode c_M_rest 77 = .ok (.aload_n 0, 1) := by decide +kernel
theorem dd_M_rest_78 : decode c_M_rest 78 = .ok (.invokevirtual 321, 3) := by decide +kernel
theorem dd_M_rest_81 : decode c_M_rest 81 = .ok (.aload_n 0, 1) := by decide +kernel
theorem dd_M_rest_82 : decode c_M_rest 82 = .ok (.getfield 58, 3) := by decide +kernel
theorem dd_M_rest_85 : decode c_M_rest 85 = .ok (.bipush 44, 2) := by decide +kernel
theorem dd_M_rest_87 : decode c_M_rest 87 = .ok (.dup2, 1) := by decide +kernel
theorem dd_M_rest_88 : decode c_M_rest 88 = .ok (.iaload, 1) := by decide +kernel
theorem dd_M_rest_89 : decode c_M_rest 89 = .ok (.iload_n 1, 1) := by decide +kernel
theorem dd_M_rest_90 : decode c_M_rest 90 = .ok (.isub, 1) := by decide +kernel
theorem dd_M_rest_91 : decode c_M_rest 91 = .ok (.iastore, 1) := by decide +kernel
theorem dd_M_rest_92 : decode c_M_rest 92 = .ok (.aload_n 0, 1) := by decide +kernel
theorem dd_M_rest_93 : decode c_M_rest 93 = .ok (.getfield 58, 3) := by decide +kernel
theorem dd_M_rest_96 : decode c_M_rest 96 = .ok (.bipush 45, 2) := by decide +kernel
theorem dd_M_rest_98 : decode c_M_rest 98 = .ok (.dup2, 1) := by decide +kernel
theorem dd_M_rest_99 : decode c_M_rest 99 = .ok (.iaload, 1) := by decide +kernel
theorem dd_M_rest_100 : decode c_M_rest 100 = .ok (.iconst 1, 1) := by decide +kernel
theorem dd_M_rest_101 : decode c_M_rest 101 = .ok (.iadd, 1) := by decide +kernel
theorem dd_M_rest_102 : decode c_M_rest 102 = .ok (.iastore, 1) := by decide +kernel
theorem dd_M_rest_103 : decode c_M_rest 103 = .ok (.aload_n 0, 1) := by decide +kernel
theorem dd_M_rest_104 : decode c_M_rest 104 = .ok (.getfield 58, 3) := by decide +kernel
theorem dd_M_rest_107 : decode c_M_rest 107 = .ok (.bipush 44, 2) := by decide +kernel
theorem dd_M_rest_109 : decode c_M_rest 109 = .ok (.iaload, 1) := by decide +kernel
theorem dd_M_rest_110 : decode c_M_rest 110 = .ok (.ireturn, 1) := by decide +kernel
theorem dd_W_give_0 : decode c_W_give 0 = .ok (.aload_n 0, 1) := by decide +kernel
theorem dd_W_give_1 : decode c_W_give 1 = .ok (.getfield 42, 3) := by decide +kernel
theorem dd_W_give_4 : decode c_W_give 4 = .ok (.invokevirtual 235, 3) := by decide +kernel
theorem dd_W_give_7 : decode c_W_give 7 = .ok (.ifCond .ne 9, 3) := by decide +kernel
theorem dd_W_give_10 : decode c_W_give 10 = .ok (.aload_n 0, 1) := by decide +kernel
theorem dd_W_give_11 : decode c_W_give 11 = .ok (.iconst 0, 1) := by decide +kernel
theorem dd_W_give_12 : decode c_W_give 12 = .ok (.invokevirtual 195, 3) := by decide +kernel
theorem dd_W_give_15 : decode c_W_give 15 = .ok (.ireturn, 1) := by decide +kernel
theorem dd_W_give_16 : decode c_W_give 16 = .ok (.iload_n 1, 1) := by decide +kernel
theorem dd_W_give_17 : decode c_W_give 17 = .ok (.iconst 1, 1) := by decide +kernel
theorem dd_W_give_18 : decode c_W_give 18 = .ok (.if_icmp .lt 24, 3) := by decide +kernel
theorem dd_W_give_21 : decode c_W_give 21 = .ok (.iload_n 1, 1) := by decide +kernel
theorem dd_W_give_22 : decode c_W_give 22 = .ok (.bipush 50, 2) := by decide +kernel
theorem dd_W_give_24 : decode c_W_give 24 = .ok (.if_icmp .gt 18, 3) := by decide +kernel
theorem dd_W_give_27 : decode c_W_give 27 = .ok (.aload_n 0, 1) := by decide +kernel
theorem dd_W_give_28 : decode c_W_give 28 = .ok (.getfield 49, 3) := by decide +kernel
theorem dd_W_give_31 : decode c_W_give 31 = .ok (.getfield 218, 3) := by decide +kernel
theorem dd_W_give_34 : decode c_W_give 34 = .ok (.iload_n 1, 1) := by decide +kernel
theorem dd_W_give_35 : decode c_W_give 35 = .ok (.iadd, 1) := by decide +kernel
theorem dd_W_give_36 : decode c_W_give 36 = .ok (.sipush 999, 3) := by decide +kernel
theorem dd_W_give_39 : decode c_W_give 39 = .ok (.if_icmp .le 9, 3) := by decide +kernel
theorem dd_W_give_42 : decode c_W_give 42 = .ok (.aload_n 0, 1) := by decide +kernel
theorem dd_W_give_43 : decode c_W_give 43 = .ok (.iconst 1, 1) := by decide +kernel
theorem dd_W_give_44 : decode c_W_give 44 = .ok (.invokevirtual 195, 3) := by decide +kernel
theorem dd_W_give_47 : decode c_W_give 47 = .ok (.ireturn, 1) := by decide +kernel
theorem dd_W_give_48 : decode c_W_give 48 = .ok (.aload_n 0, 1) := by decide +kernel
theorem dd_W_give_49 : decode c_W_give 49 = .ok (.getfield 56, 3) := by decide +kernel
theorem dd_W_give_52 : decode c_W_give 52 = .ok (.aload_n 0, 1) := by decide +kernel
theorem dd_W_give_53 : decode c_W_give 53 = .ok (.getfield 49, 3) := by decide +kernel
theorem dd_W_give_56 : decode c_W_give 56 = .ok (.invokevirtual 207, 3) := by decide +kernel
theorem dd_W_give_59 : decode c_W_give 59 = .ok (.aload_n 0, 1) := by decide +kernel
theorem dd_W_give_60 : decode c_W_give 60 = .ok (.getfield 49, 3) := by decide +kernel
theorem dd_W_give_63 : decode c_W_give 63 = .ok (.dup, 1) := by decide +kernel
theorem dd_W_give_64 : decode c_W_give 64 = .ok (.getfield 218, 3) := by decide +kernel
theorem dd_W_give_67 : decode c_W_give 67 = .ok (.iload_n 1, 1) := by decide +kernel
theorem dd_W_give_68 : decode c_W_give 68 = .ok (.iadd, 1) := by decide +kernel
theorem dd_W_give_69 : decode c_W_give 69 = .ok (.putfield 218, 3) := by decide +kernel
theorem dd_W_give_72 : decode c_W_give 72 = .ok (.aload_n 0, 1) := by decide +kernel
theorem dd_W_give_73 : decode c_W_give 73 = .ok (.getfield 49, 3) := by decide +kernel
theorem dd_W_give_76 : decode c_W_give 76 = .ok (.getfield 218, 3) := by decide +kernel
theorem dd_W_give_79 : decode c_W_give 79 = .ok (.ireturn, 1) := by decide +kernel
theorem dd_M_give_0 : decode c_M_give 0 = .ok (.aload_n 0, 1) := by decide +kernel
theorem dd_M_give_1 : decode c_M_give 1 = .ok (.aload_n 0, 1) := by decide +kernel
theorem dd_M_give_2 : decode c_M_give 2 = .ok (.getfield 242, 3) := by decide +kernel
theorem dd_M_give_5 : decode c_M_give 5 = .ok (.ifCond .ne 7, 3) := by decide +kernel
theorem dd_M_give_8 : decode c_M_give 8 = .ok (.iconst 0, 1) := by decide +kernel
theorem dd_M_give_9 : decode c_M_give 9 = .ok (.goto 33, 3) := by decide +kernel
theorem dd_M_give_12 : decode c_M_give 12 = .ok (.iload_n 1, 1) := by decide +kernel
theorem dd_M_give_13 : decode c_M_give 13 = .ok (.iconst 1, 1) := by decide +kernel
theorem dd_M_give_14 : decode c_M_give 14 = .ok (.bipush 50, 2) := by decide +kernel
theorem dd_M_give_16 : decode c_M_give 16 = .ok (.invokestatic 205, 3) := by decide +kernel
theorem dd_M_give_19 : decode c_M_give 19 = .ok (.ifCond .eq 18, 3) := by decide +kernel
theorem dd_M_give_22 : decode c_M_give 22 = .ok (.aload_n 0, 1) := by decide +kernel
theorem dd_M_give_23 : decode c_M_give 23 = .ok (.getfield 58, 3) := by decide +kernel
theorem dd_M_give_26 : decode c_M_give 26 = .ok (.bipush 44, 2) := by decide +kernel
theorem dd_M_give_28 : decode c_M_give 28 = .ok (.iaload, 1) := by decide +kernel
theorem dd_M_give_29 : decode c_M_give 29 = .ok (.iload_n 1, 1) := by decide +kernel
theorem dd_M_give_30 : decode c_M_give 30 = .ok (.iadd, 1) := by decide +kernel
theorem dd_M_give_31 : decode c_M_give 31 = .ok (.sipush 999, 3) := by decide +kernel
theorem dd_M_give_34 : decode c_M_give 34 = .ok (.if_icmp .le 7, 3) := by decide +kernel
theorem dd_M_give_37 : decode c_M_give 37 = .ok (.iconst 1, 1) := by decide +kernel
theorem dd_M_give_38 : decode c_M_give 38 = .ok (.goto 4, 3) := by decide +kernel
theorem dd_M_give_41 : decode c_M_give 41 = .ok (.iconst (-1), 1) := by decide +kernel
theorem dd_M_give_42 : decode c_M_give 42 = .ok (.invokevirtual 318, 3) := by decide +kernel
theorem dd_M_give_45 : decode c_M_give 45 = .ok (.ifCond .eq 5, 3) := by decide +kernel
theorem dd_M_give_48 : decode c_M_give 48 = .ok (.iconst (-1), 1) := by decide +kernel
theorem dd_M_give_49 : decode c_M_give 49 = .ok (.ireturn, 1) := by decide +kernel
theorem dd_M_give_50 : decode c_M_give 50 = .ok (.aload_n 0, 1) := by decide +kernel
theorem dd_M_give_51 : decode c_M_give 51 = .ok (.invokevirtual 321, 3) := by decide +kernel
theorem dd_M_give_54 : decode c_M_give 54 = .ok (.aload_n 0, 1) := by decide +kernel
theorem dd_M_give_55 : decode c_M_give 55 = .ok (.getfield 58, 3) := by decide +kernel
theorem dd_M_give_58 : decode c_M_give 58 = .ok (.bipush 44, 2) := by decide +kernel
theorem dd_M_give_60 : decode c_M_give 60 = .ok (.dup2, 1) := by decide +kernel
theorem dd_M_give_61 : decode c_M_give 61 = .ok (.iaload, 1) := by decide +kernel
theorem dd_M_give_62 : decode c_M_give 62 = .ok (.iload_n 1, 1) := by decide +kernel
theorem dd_M_give_63 : decode c_M_give 63 = .ok (.iadd, 1) := by decide +kernel
theorem dd_M_give_64 : decode c_M_give 64 = .ok (.iastore, 1) := by decide +kernel
theorem dd_M_give_65 : decode c_M_give 65 = .ok (.aload_n 0, 1) := by decide +kernel
theorem dd_M_give_66 : decode c_M_give 66 = .ok (.getfield 58, 3) := by decide +kernel
theorem dd_M_give_69 : decode c_M_give 69 = .ok (.bipush 44, 2) := by decide +kernel
theorem dd_M_give_71 : decode c_M_give 71 = .ok (.iaload, 1) := by decide +kernel
theorem dd_M_give_72 : decode c_M_give 72 = .ok (.ireturn, 1) := by decide +kernel
theorem dd_W_whys_0 : decode c_W_whys 0 = .ok (.iload_n 1, 1) := by decide +kernel
theorem dd_W_whys_1 : decode c_W_whys 1 = .ok (.ifCond .lt 17, 3) := by decide +kernel
theorem dd_W_whys_4 : decode c_W_whys 4 = .ok (.iload_n 1, 1) := by decide +kernel
theorem dd_W_whys_5 : decode c_W_whys 5 = .ok (.bipush 9, 2) := by decide +kernel
theorem dd_W_whys_7 : decode c_W_whys 7 = .ok (.if_icmp .gt 11, 3) := by decide +kernel
theorem dd_W_whys_10 : decode c_W_whys 10 = .ok (.iload_n 1, 1) := by decide +kernel
theorem dd_W_whys_11 : decode c_W_whys 11 = .ok (.aload_n 0, 1) := by decide +kernel
theorem dd_W_whys_12 : decode c_W_whys 12 = .ok (.getfield 98, 3) := by decide +kernel
theorem dd_W_whys_15 : decode c_W_whys 15 = .ok (.if_icmp .ne 5, 3) := by decide +kernel
theorem dd_W_whys_18 : decode c_W_whys 18 = .ok (.iconst 0, 1) := by decide +kernel
theorem dd_W_whys_19 : decode c_W_whys 19 = .ok (.ireturn, 1) := by decide +kernel
theorem dd_W_whys_20 : decode c_W_whys 20 = .ok (.aload_n 0, 1) := by decide +kernel
theorem dd_W_whys_21 : decode c_W_whys 21 = .ok (.iload_n 1, 1) := by decide +kernel
theorem dd_W_whys_22 : decode c_W_whys 22 = .ok (.putfield 98, 3) := by decide +kernel
theorem dd_W_whys_25 : decode c_W_whys 25 = .ok (.iconst 1, 1) := by decide +kernel
theorem dd_W_whys_26 : decode c_W_whys 26 = .ok (.ireturn, 1) := by decide +kernel
theorem dd_M_whys_0 : decode c_M_whys 0 = .ok (.iload_n 1, 1) := by decide +kernel
theorem dd_M_whys_1 : decode c_M_whys 1 = .ok (.iconst 0, 1) := by decide +kernel
theorem dd_M_whys_2 : decode c_M_whys 2 = .ok (.bipush 9, 2) := by decide +kernel
theorem dd_M_whys_4 : decode c_M_whys 4 = .ok (.invokestatic 205, 3) := by decide +kernel
theorem dd_M_whys_7 : decode c_M_whys 7 = .ok (.ifCond .eq 11, 3) := by decide +kernel
theorem dd_M_whys_10 : decode c_M_whys 10 = .ok (.iload_n 1, 1) := by decide +kernel
theorem dd_M_whys_11 : decode c_M_whys 11 = .ok (.aload_n 0, 1) := by decide +kernel
theorem dd_M_whys_12 : decode c_M_whys 12 = .ok (.getfield 68, 3) := by decide +kernel
theorem dd_M_whys_15 : decode c_M_whys 15 = .ok (.if_icmp .ne 5, 3) := by decide +kernel
theorem dd_M_whys_18 : decode c_M_whys 18 = .ok (.iconst 0, 1) := by decide +kernel
theorem dd_M_whys_19 : decode c_M_whys 19 = .ok (.ireturn, 1) := by decide +kernel
theorem dd_M_whys_20 : decode c_M_whys 20 = .ok (.aload_n 0, 1) := by decide +kernel
theorem dd_M_whys_21 : decode c_M_whys 21 = .ok (.iload_n 1, 1) := by decide +kernel
theorem dd_M_whys_22 : decode c_M_whys 22 = .ok (.putfield 68, 3) := by decide +kernel
theorem dd_M_whys_25 : decode c_M_whys 25 = .ok (.iconst 1, 1) := by decide +kernel
theorem dd_M_whys_26 : decode c_M_whys 26 = .ok (.ireturn, 1) := by decide +kernel
theorem dd_W_turned_0 : decode c_W_turned 0 = .ok (.lload_n 0, 1) := by decide +kernel
theorem dd_W_turned_1 : decode c_W_turned 1 = .ok (.ldc2_w 261, 3) := by decide +kernel
theorem dd_W_turned_4 : decode c_W_turned 4 = .ok (.lmul, 1) := by decide +kernel
theorem dd_W_turned_5 : decode c_W_turned 5 = .ok (.ldc2_w 263, 3) := by decide +kernel
theorem dd_W_turned_8 : decode c_W_turned 8 = .ok (.ladd, 1) := by decide +kernel
theorem dd_W_turned_9 : decode c_W_turned 9 = .ok (.lreturn, 1) := by decide +kernel
theorem dd_W_drawn_0 : decode c_W_drawn 0 = .ok (.iload_n 2, 1) := by decide +kernel
theorem dd_W_drawn_1 : decode c_W_drawn 1 = .ok (.ifCond .le 14, 3) := by decide +kernel
theorem dd_W_drawn_4 : decode c_W_drawn 4 = .ok (.lload_n 0, 1) := by decide +kernel
theorem dd_W_drawn_5 : decode c_W_drawn 5 = .ok (.bipush 33, 2) := by decide +kernel
theorem dd_W_drawn_7 : decode c_W_drawn 7 = .ok (.lushr, 1) := by decide +kernel
theorem dd_W_drawn_8 : decode c_W_drawn 8 = .ok (.iload_n 2, 1) := by decide +kernel
theorem dd_W_drawn_9 : decode c_W_drawn 9 = .ok (.i2l, 1) := by decide +kernel
theorem dd_W_drawn_10 : decode c_W_drawn 10 = .ok (.lrem, 1) := by decide +kernel
theorem dd_W_drawn_11 : decode c_W_drawn 11 = .ok (.l2i, 1) := by decide +kernel
theorem dd_W_drawn_12 : decode c_W_drawn 12 = .ok (.goto 4, 3) := by decide +kernel
theorem dd_W_drawn_15 : decode c_W_drawn 15 = .ok (.iconst 0, 1) := by decide +kernel
theorem dd_W_drawn_16 : decode c_W_drawn 16 = .ok (.ireturn, 1) := by decide +kernel
theorem dd_W_walkIfHeCan_0 : decode c_W_walkIfHeCan 0 = .ok (.aload_n 0, 1) := by decide +kernel
theorem dd_W_walkIfHeCan_1 : decode c_W_walkIfHeCan 1 = .ok (.getfield 49, 3) := by decide +kernel
theorem dd_W_walkIfHeCan_4 : decode c_W_walkIfHeCan 4 = .ok (.iload_n 1, 1) := by decide +kernel
theorem dd_W_walkIfHeCan_5 : decode c_W_walkIfHeCan 5 = .ok (.invokevirtual 215, 3) := by decide +kernel
theorem dd_W_walkIfHeCan_8 : decode c_W_walkIfHeCan 8 = .ok (.istore_n 2, 1) := by decide +kernel
theorem dd_W_walkIfHeCan_9 : decode c_W_walkIfHeCan 9 = .ok (.iload_n 2, 1) := by decide +kernel
theorem dd_W_walkIfHeCan_10 : decode c_W_walkIfHeCan 10 = .ok (.aload_n 0, 1) := by decide +kernel
theorem dd_W_walkIfHeCan_11 : decode c_W_walkIfHeCan 11 = .ok (.getfield 49, 3) := by decide +kernel
theorem dd_W_walkIfHeCan_14 : decode c_W_walkIfHeCan 14 = .ok (.getfield 218, 3) := by decide +kernel
theorem dd_W_walkIfHeCan_17 : decode c_W_walkIfHeCan 17 = .ok (.if_icmp .gt 22, 3) := by decide +kernel
theorem dd_W_walkIfHeCan_20 : decode c_W_walkIfHeCan 20 = .ok (.aload_n 0, 1) := by decide +kernel
theorem dd_W_walkIfHeCan_21 : decode c_W_walkIfHeCan 21 = .ok (.getfield 49, 3) := by decide +kernel
theorem dd_W_walkIfHeCan_24 : decode c_W_walkIfHeCan 24 = .ok (.iload_n 2, 1) := by decide +kernel
theorem dd_W_walkIfHeCan_25 : decode c_W_walkIfHeCan 25 = .ok (.invokevirtual 204, 3) := by decide +kernel
theorem dd_W_walkIfHeCan_28 : decode c_W_walkIfHeCan 28 = .ok (.ifCond .eq 11, 3) := by decide +kernel
theorem dd_W_walkIfHeCan_31 : decode c_W_walkIfHeCan 31 = .ok (.aload_n 0, 1) := by decide +kernel
theorem dd_W_walkIfHeCan_32 : decode c_W_walkIfHeCan 32 = .ok (.getfield 49, 3) := by decide +kernel
theorem dd_W_walkIfHeCan_35 : decode c_W_walkIfHeCan 35 = .ok (.iload_n 1, 1) := by decide +kernel
theorem dd_W_walkIfHeCan_36 : decode c_W_walkIfHeCan 36 = .ok (.invokevirtual 221, 3) := by decide +kernel
theorem dd_W_walkIfHeCan_39 : decode c_W_walkIfHeCan 39 = .ok (.return_, 1) := by decide +kernel
theorem dd_W_tellIfHeCan_0 : decode c_W_tellIfHeCan 0 = .ok (.aload_n 0, 1) := by decide +kernel
theorem dd_W_tellIfHeCan_1 : decode c_W_tellIfHeCan 1 = .ok (.getfield 49, 3) := by decide +kernel
theorem dd_W_tellIfHeCan_4 : decode c_W_tellIfHeCan 4 = .ok (.iload_n 1, 1) := by decide +kernel
theorem dd_W_tellIfHeCan_5 : decode c_W_tellIfHeCan 5 = .ok (.invokevirtual 178, 3) := by decide +kernel
theorem dd_W_tellIfHeCan_8 : decode c_W_tellIfHeCan 8 = .ok (.ifCond .ne 4, 3) := by decide +kernel
theorem dd_W_tellIfHeCan_11 : decode c_W_tellIfHeCan 11 = .ok (.return_, 1) := by decide +kernel
theorem dd_W_tellIfHeCan_12 : decode c_W_tellIfHeCan 12 = .ok (.aload_n 0, 1) := by decide +kernel
theorem dd_W_tellIfHeCan_13 : decode c_W_tellIfHeCan 13 = .ok (.getfield 65, 3) := by decide +kernel
theorem dd_W_tellIfHeCan_16 : decode c_W_tellIfHeCan 16 = .ok (.aload_n 0, 1) := by decide +kernel
theorem dd_W_tellIfHeCan_17 : decode c_W_tellIfHeCan 17 = .ok (.getfield 49, 3) := by decide +kernel
theorem dd_W_tellIfHeCan_20 : decode c_W_tellIfHeCan 20 = .ok (.getfield 198, 3) := by decide +kernel
theorem dd_W_tellIfHeCan_23 : decode c_W_tellIfHeCan 23 = .ok (.iload_n 1, 1) := by decide +kernel
theorem dd_W_tellIfHeCan_24 : decode c_W_tellIfHeCan 24 = .ok (.invokevirtual 188, 3) := by decide +kernel
theorem dd_W_tellIfHeCan_27 : decode c_W_tellIfHeCan 27 = .ok (.istore_n 2, 1) := by decide +kernel
theorem dd_W_tellIfHeCan_28 : decode c_W_tellIfHeCan 28 = .ok (.aload_n 0, 1) := by decide +kernel
theorem dd_W_tellIfHeCan_29 : decode c_W_tellIfHeCan 29 = .ok (.getfield 49, 3) := by decide +kernel
theorem dd_W_tellIfHeCan_32 : decode c_W_tellIfHeCan 32 = .ok (.iload_n 2, 1) := by decide +kernel
theorem dd_W_tellIfHeCan_33 : decode c_W_tellIfHeCan 33 = .ok (.invokestatic 201, 3) := by decide +kernel
theorem dd_W_tellIfHeCan_36 : decode c_W_tellIfHeCan 36 = .ok (.invokevirtual 204, 3) := by decide +kernel
theorem dd_W_tellIfHeCan_39 : decode c_W_tellIfHeCan 39 = .ok (.ifCond .eq 12, 3) := by decide +kernel
theorem dd_W_tellIfHeCan_42 : decode c_W_tellIfHeCan 42 = .ok (.aload_n 0, 1) := by decide +kernel
theorem dd_W_tellIfHeCan_43 : decode c_W_tellIfHeCan 43 = .ok (.getfield 49, 3) := by decide +kernel
theorem dd_W_tellIfHeCan_46 : decode c_W_tellIfHeCan 46 = .ok (.iload_n 1, 1) := by decide +kernel
theorem dd_W_tellIfHeCan_47 : decode c_W_tellIfHeCan 47 = .ok (.iload_n 2, 1) := by decide +kernel
theorem dd_W_tellIfHeCan_48 : decode c_W_tellIfHeCan 48 = .ok (.invokevirtual 211, 3) := by decide +kernel
theorem dd_W_tellIfHeCan_51 : decode c_W_tellIfHeCan 51 = .ok (.return_, 1) := by decide +kernel
theorem dd_W_years_0 : decode c_W_years 0 = .ok (.aload_n 0, 1) := by decide +kernel
theorem dd_W_years_1 : decode c_W_years 1 = .ok (.getfield 42, 3) := by decide +kernel
theorem dd_W_years_4 : decode c_W_years 4 = .ok (.invokevirtual 235, 3) := by decide +kernel
theorem dd_W_years_7 : decode c_W_years 7 = .ok (.ifCond .eq 14, 3) := by decide +kernel
theorem dd_W_years_10 : decode c_W_years 10 = .ok (.iload_n 1, 1) := by decide +kernel
theorem dd_W_years_11 : decode c_W_years 11 = .ok (.iconst 1, 1) := by decide +kernel
theorem dd_W_years_12 : decode c_W_years 12 = .ok (.if_icmp .lt 9, 3) := by decide +kernel
theorem dd_W_years_15 : decode c_W_years 15 = .ok (.iload_n 1, 1) := by decide +kernel
theorem dd_W_years_16 : decode c_W_years 16 = .ok (.bipush 60, 2) := by decide +kernel
theorem dd_W_years_18 : decode c_W_years 18 = .ok (.if_icmp .le 5, 3) := by decide +kernel
theorem dd_W_years_21 : decode c_W_years 21 = .ok (.iconst (-1), 1) := by decide +kernel
theorem dd_W_years_22 : decode c_W_years 22 = .ok (.ireturn, 1) := by decide +kernel
theorem dd_W_years_23 : decode c_W_years 23 = .ok (.lload_n 2, 1) := by decide +kernel
theorem dd_W_years_24 : decode c_W_years 24 = .ok (.lstore 4, 2) := by decide +kernel
theorem dd_W_years_26 : decode c_W_years 26 = .ok (.iconst 0, 1) := by decide +kernel
theorem dd_W_years_27 : decode c_W_years 27 = .ok (.istore 6, 2) := by decide +kernel
theorem dd_W_years_29 : decode c_W_years 29 = .ok (.iload 6, 2) := by decide +kernel
theorem dd_W_years_31 : decode c_W_years 31 = .ok (.iload_n 1, 1) := by decide +kernel
theorem dd_W_years_32 : decode c_W_years 32 = .ok (.if_icmp .ge 109, 3) := by decide +kernel
theorem dd_W_years_35 : decode c_W_years 35 = .ok (.aload_n 0, 1) := by decide +kernel
theorem dd_W_years_36 : decode c_W_years 36 = .ok (.getfield 56, 3) := by decide +kernel
theorem dd_W_years_39 : decode c_W_years 39 = .ok (.aload_n 0, 1) := by decide +kernel
theorem dd_W_years_40 : decode c_W_years 40 = .ok (.getfield 49, 3) := by decide +kernel
theorem dd_W_years_43 : decode c_W_years 43 = .ok (.invokevirtual 207, 3) := by decide +kernel
theorem dd_W_years_46 : decode c_W_years 46 = .ok (.lload 4, 2) := by decide +kernel
theorem dd_W_years_48 : decode c_W_years 48 = .ok (.invokestatic 239, 3) := by decide +kernel
theorem dd_W_years_51 : decode c_W_years 51 = .ok (.lstore 4, 2) := by decide +kernel
theorem dd_W_years_53 : decode c_W_years 53 = .ok (.aload_n 0, 1) := by decide +kernel
theorem dd_W_years_54 : decode c_W_years 54 = .ok (.lload 4, 2) := by decide +kernel
theorem dd_W_years_56 : decode c_W_years 56 = .ok (.aload_n 0, 1) := by decide +kernel
theorem dd_W_years_57 : decode c_W_years 57 = .ok (.getfield 42, 3) := by decide +kernel
theorem dd_W_years_60 : decode c_W_years 60 = .ok (.getfield 121, 3) := by decide +kernel
theorem dd_W_years_63 : decode c_W_years 63 = .ok (.invokestatic 243, 3) := by decide +kernel
theorem dd_W_years_66 : decode c_W_years 66 = .ok (.invokevirtual 247, 3) := by decide +kernel
theorem dd_W_years_69 : decode c_W_years 69 = .ok (.lload 4, 2) := by decide +kernel
theorem dd_W_years_71 : decode c_W_years 71 = .ok (.invokestatic 239, 3) := by decide +kernel
theorem dd_W_years_74 : decode c_W_years 74 = .ok (.lstore 4, 2) := by decide +kernel
theorem dd_W_years_76 : decode c_W_years 76 = .ok (.aload_n 0, 1) := by decide +kernel
theorem dd_W_years_77 : decode c_W_years 77 = .ok (.lload 4, 2) := by decide +kernel
theorem dd_W_years_79 : decode c_W_years 79 = .ok (.aload_n 0, 1) := by decide +kernel
theorem dd_W_years_80 : decode c_W_years 80 = .ok (.getfield 42, 3) := by decide +kernel
theorem dd_W_years_83 : decode c_W_years 83 = .ok (.getfield 250, 3) := by decide +kernel
theorem dd_W_years_86 : decode c_W_years 86 = .ok (.invokestatic 243, 3) := by decide +kernel
theorem dd_W_years_89 : decode c_W_years 89 = .ok (.invokevirtual 253, 3) := by decide +kernel
theorem dd_W_years_92 : decode c_W_years 92 = .ok (.lload 4, 2) := by decide +kernel
theorem dd_W_years_94 : decode c_W_years 94 = .ok (.invokestatic 239, 3) := by decide +kernel
theorem dd_W_years_97 : decode c_W_years 97 = .ok (.lstore 4, 2) := by decide +kernel
theorem dd_W_years_99 : decode c_W_years 99 = .ok (.lload 4, 2) := by decide +kernel
theorem dd_W_years_101 : decode c_W_years 101 = .ok (.bipush 10, 2) := by decide +kernel
theorem dd_W_years_103 : decode c_W_years 103 = .ok (.invokestatic 243, 3) := by decide +kernel
theorem dd_W_years_106 : decode c_W_years 106 = .ok (.aload_n 0, 1) := by decide +kernel
theorem dd_W_years_107 : decode c_W_years 107 = .ok (.getfield 98, 3) := by decide +kernel
theorem dd_W_years_110 : decode c_W_years 110 = .ok (.if_icmp .ge 25, 3) := by decide +kernel
theorem dd_W_years_113 : decode c_W_years 113 = .ok (.aload_n 0, 1) := by decide +kernel
theorem dd_W_years_114 : decode c_W_years 114 = .ok (.getfield 49, 3) := by decide +kernel
theorem dd_W_years_117 : decode c_W_years 117 = .ok (.aload_n 0, 1) := by decide +kernel
theorem dd_W_years_118 : decode c_W_years 118 = .ok (.getfield 49, 3) := by decide +kernel
theorem dd_W_years_121 : decode c_W_years 121 = .ok (.getfield 218, 3) := by decide +kernel
theorem dd_W_years_124 : decode c_W_years 124 = .ok (.iconst 3, 1) := by decide +kernel
theorem dd_W_years_125 : decode c_W_years 125 = .ok (.iadd, 1) := by decide +kernel
theorem dd_W_years_126 : decode c_W_years 126 = .ok (.sipush 999, 3) := by decide +kernel
theorem dd_W_years_129 : decode c_W_years 129 = .ok (.invokestatic 256, 3) := by decide +kernel
theorem dd_W_years_132 : decode c_W_years 132 = .ok (.putfield 218, 3) := by decide +kernel
theorem dd_W_years_135 : decode c_W_years 135 = .ok (.iinc 6 1, 3) := by decide +kernel
theorem dd_W_years_138 : decode c_W_years 138 = .ok (.goto (-109), 3) := by decide +kernel
theorem dd_W_years_141 : decode c_W_years 141 = .ok (.aload_n 0, 1) := by decide +kernel
theorem dd_W_years_142 : decode c_W_years 142 = .ok (.getfield 49, 3) := by decide +kernel
theorem dd_W_years_145 : decode c_W_years 145 = .ok (.getfield 224, 3) := by decide +kernel
theorem dd_W_years_148 : decode c_W_years 148 = .ok (.ireturn, 1) := by decide +kernel
theorem dd_M_draw_0 : decode c_M_draw 0 = .ok (.aload_n 0, 1) := by decide +kernel
theorem dd_M_draw_1 : decode c_M_draw 1 = .ok (.aload_n 0, 1) := by decide +kernel
theorem dd_M_draw_2 : decode c_M_draw 2 = .ok (.getfield 335, 3) := by decide +kernel
theorem dd_M_draw_5 : decode c_M_draw 5 = .ok (.ldc2_w 339, 3) := by decide +kernel
theorem dd_M_draw_8 : decode c_M_draw 8 = .ok (.lmul, 1) := by decide +kernel
theorem dd_M_draw_9 : decode c_M_draw 9 = .ok (.ldc2_w 341, 3) := by decide +kernel
theorem dd_M_draw_12 : decode c_M_draw 12 = .ok (.ladd, 1) := by decide +kernel
theorem dd_M_draw_13 : decode c_M_draw 13 = .ok (.putfield 335, 3) := by decide +kernel
theorem dd_M_draw_16 : decode c_M_draw 16 = .ok (.aload_n 0, 1) := by decide +kernel
theorem dd_M_draw_17 : decode c_M_draw 17 = .ok (.getfield 335, 3) := by decide +kernel
theorem dd_M_draw_20 : decode c_M_draw 20 = .ok (.bipush 33, 2) := by decide +kernel
theorem dd_M_draw_22 : decode c_M_draw 22 = .ok (.lushr, 1) := by decide +kernel
theorem dd_M_draw_23 : decode c_M_draw 23 = .ok (.iload_n 1, 1) := by decide +kernel
theorem dd_M_draw_24 : decode c_M_draw 24 = .ok (.i2l, 1) := by decide +kernel
theorem dd_M_draw_25 : decode c_M_draw 25 = .ok (.lrem, 1) := by decide +kernel
theorem dd_M_draw_26 : decode c_M_draw 26 = .ok (.l2i, 1) := by decide +kernel
theorem dd_M_draw_27 : decode c_M_draw 27 = .ok (.ireturn, 1) := by decide +kernel
theorem dd_M_drawRound_0 : decode c_M_drawRound 0 = .ok (.aload_n 0, 1) := by decide +kernel
theorem dd_M_drawRound_1 : decode c_M_drawRound 1 = .ok (.aload_n 0, 1) := by decide +kernel
theorem dd_M_drawRound_2 : decode c_M_drawRound 2 = .ok (.getfield 242, 3) := by decide +kernel
theorem dd_M_drawRound_5 : decode c_M_drawRound 5 = .ok (.invokevirtual 343, 3) := by decide +kernel
theorem dd_M_drawRound_8 : decode c_M_drawRound 8 = .ok (.istore_n 1, 1) := by decide +kernel
theorem dd_M_drawRound_9 : decode c_M_drawRound 9 = .ok (.aload_n 0, 1) := by decide +kernel
theorem dd_M_drawRound_10 : decode c_M_drawRound 10 = .ok (.iload_n 1, 1) := by decide +kernel
theorem dd_M_drawRound_11 : decode c_M_drawRound 11 = .ok (.invokevirtual 290, 3) := by decide +kernel
theorem dd_M_drawRound_14 : decode c_M_drawRound 14 = .ok (.istore_n 2, 1) := by decide +kernel
theorem dd_M_drawRound_15 : decode c_M_drawRound 15 = .ok (.iload_n 2, 1) := by decide +kernel
theorem dd_M_drawRound_16 : decode c_M_drawRound 16 = .ok (.ifCond .le 38, 3) := by decide +kernel
theorem dd_M_drawRound_19 : decode c_M_drawRound 19 = .ok (.aload_n 0, 1) := by decide +kernel
theorem dd_M_drawRound_20 : decode c_M_drawRound 20 = .ok (.getfield 58, 3) := by decide +kernel
theorem dd_M_drawRound_23 : decode c_M_drawRound 23 = .ok (.bipush 44, 2) := by decide +kernel
theorem dd_M_drawRound_25 : decode c_M_drawRound 25 = .ok (.iaload, 1) := by decide +kernel
theorem dd_M_drawRound_26 : decode c_M_drawRound 26 = .ok (.iload_n 2, 1) := by decide +kernel
theorem dd_M_drawRound_27 : decode c_M_drawRound 27 = .ok (.if_icmp .lt 27, 3) := by decide +kernel
theorem dd_M_drawRound_30 : decode c_M_drawRound 30 = .ok (.aload_n 0, 1) := by decide +kernel
theorem dd_M_drawRound_31 : decode c_M_drawRound 31 = .ok (.iload_n 2, 1) := by decide +kernel
theorem dd_M_drawRound_32 : decode c_M_drawRound 32 = .ok (.invokevirtual 312, 3) := by decide +kernel
theorem dd_M_drawRound_35 : decode c_M_drawRound 35 = .ok (.ifCond .ne 19, 3) := by decide +kernel
theorem dd_M_drawRound_38 : decode c_M_drawRound 38 = .ok (.aload_n 0, 1) := by decide +kernel
theorem dd_M_drawRound_39 : decode c_M_drawRound 39 = .ok (.iload_n 1, 1) := by decide +kernel
theorem dd_M_drawRound_40 : decode c_M_drawRound 40 = .ok (.invokevirtual 327, 3) := by decide +kernel
theorem dd_M_drawRound_43 : decode c_M_drawRound 43 = .ok (.aload_n 0, 1) := by decide +kernel
theorem dd_M_drawRound_44 : decode c_M_drawRound 44 = .ok (.getfield 58, 3) := by decide +kernel
theorem dd_M_drawRound_47 : decode c_M_drawRound 47 = .ok (.bipush 45, 2) := by decide +kernel
theorem dd_M_drawRound_49 : decode c_M_drawRound 49 = .ok (.dup2, 1) := by decide +kernel
theorem dd_M_drawRound_50 : decode c_M_drawRound 50 = .ok (.iaload, 1) := by decide +kernel
theorem dd_M_drawRound_51 : decode c_M_drawRound 51 = .ok (.iload_n 2, 1) := by decide +kernel
theorem dd_M_drawRound_52 : decode c_M_drawRound 52 = .ok (.iadd, 1) := by decide +kernel
theorem dd_M_drawRound_53 : decode c_M_drawRound 53 = .ok (.iastore, 1) := by decide +kernel
theorem dd_M_drawRound_54 : decode c_M_drawRound 54 = .ok (.aload_n 0, 1) := by decide +kernel
theorem dd_M_drawRound_55 : decode c_M_drawRound 55 = .ok (.aload_n 0, 1) := by decide +kernel
theorem dd_M_drawRound_56 : decode c_M_drawRound 56 = .ok (.getfield 245, 3) := by decide +kernel
theorem dd_M_drawRound_59 : decode c_M_drawRound 59 = .ok (.invokevirtual 343, 3) := by decide +kernel
theorem dd_M_drawRound_62 : decode c_M_drawRound 62 = .ok (.istore_n 3, 1) := by decide +kernel
theorem dd_M_drawRound_63 : decode c_M_drawRound 63 = .ok (.aload_n 0, 1) := by decide +kernel
theorem dd_M_drawRound_64 : decode c_M_drawRound 64 = .ok (.iload_n 3, 1) := by decide +kernel
theorem dd_M_drawRound_65 : decode c_M_drawRound 65 = .ok (.invokevirtual 309, 3) := by decide +kernel
theorem dd_M_drawRound_68 : decode c_M_drawRound 68 = .ok (.ifCond .eq 17, 3) := by decide +kernel
theorem dd_M_drawRound_71 : decode c_M_drawRound 71 = .ok (.aload_n 0, 1) := by decide +kernel
theorem dd_M_drawRound_72 : decode c_M_drawRound 72 = .ok (.iload_n 3, 1) := by decide +kernel
theorem dd_M_drawRound_73 : decode c_M_drawRound 73 = .ok (.invokevirtual 315, 3) := by decide +kernel
theorem dd_M_drawRound_76 : decode c_M_drawRound 76 = .ok (.ifCond .ne 9, 3) := by decide +kernel
theorem dd_M_drawRound_79 : decode c_M_drawRound 79 = .ok (.aload_n 0, 1) := by decide +kernel
theorem dd_M_drawRound_80 : decode c_M_drawRound 80 = .ok (.iload_n 3, 1) := by decide +kernel
theorem dd_M_drawRound_81 : decode c_M_drawRound 81 = .ok (.invokevirtual 324, 3) := by decide +kernel
theorem dd_M_drawRound_84 : decode c_M_drawRound 84 = .ok (.pop, 1) := by decide +kernel
theorem dd_M_drawRound_85 : decode c_M_drawRound 85 = .ok (.aload_n 0, 1) := by decide +kernel
theorem dd_M_drawRound_86 : decode c_M_drawRound 86 = .ok (.bipush 10, 2) := by decide +kernel
theorem dd_M_drawRound_88 : decode c_M_drawRound 88 = .ok (.invokevirtual 343, 3) := by decide +kernel
theorem dd_M_drawRound_91 : decode c_M_drawRound 91 = .ok (.aload_n 0, 1) := by decide +kernel
theorem dd_M_drawRound_92 : decode c_M_drawRound 92 = .ok (.getfield 68, 3) := by decide +kernel
theorem dd_M_drawRound_95 : decode c_M_drawRound 95 = .ok (.if_icmp .ge 25, 3) := by decide +kernel
theorem dd_M_drawRound_98 : decode c_M_drawRound 98 = .ok (.aload_n 0, 1) := by decide +kernel
theorem dd_M_drawRound_99 : decode c_M_drawRound 99 = .ok (.getfield 58, 3) := by decide +kernel
theorem dd_M_drawRound_102 : decode c_M_drawRound 102 = .ok (.bipush 44, 2) := by decide +kernel
theorem dd_M_drawRound_104 : decode c_M_drawRound 104 = .ok (.sipush 999, 3) := by decide +kernel
theorem dd_M_drawRound_107 : decode c_M_drawRound 107 = .ok (.aload_n 0, 1) := by decide +kernel
theorem dd_M_drawRound_108 : decode c_M_drawRound 108 = .ok (.getfield 58, 3) := by decide +kernel
theorem dd_M_drawRound_111 : decode c_M_drawRound 111 = .ok (.bipush 44, 2) := by decide +kernel
theorem dd_M_drawRound_113 : decode c_M_drawRound 113 = .ok (.iaload, 1) := by decide +kernel
theorem dd_M_drawRound_114 : decode c_M_drawRound 114 = .ok (.iconst 3, 1) := by decide +kernel
theorem dd_M_drawRound_115 : decode c_M_drawRound 115 = .ok (.iadd, 1) := by decide +kernel
theorem dd_M_drawRound_116 : decode c_M_drawRound 116 = .ok (.invokestatic 273, 3) := by decide +kernel
theorem dd_M_drawRound_119 : decode c_M_drawRound 119 = .ok (.iastore, 1) := by decide +kernel
theorem dd_M_drawRound_120 : decode c_M_drawRound 120 = .ok (.return_, 1) := by decide +kernel
theorem dd_M_years_0 : decode c_M_years 0 = .ok (.aload_n 0, 1) := by decide +kernel
theorem dd_M_years_1 : decode c_M_years 1 = .ok (.getfield 242, 3) := by decide +kernel
theorem dd_M_years_4 : decode c_M_years 4 = .ok (.ifCond .eq 13, 3) := by decide +kernel
theorem dd_M_years_7 : decode c_M_years 7 = .ok (.iload_n 1, 1) := by decide +kernel
theorem dd_M_years_8 : decode c_M_years 8 = .ok (.iconst 1, 1) := by decide +kernel
theorem dd_M_years_9 : decode c_M_years 9 = .ok (.bipush 60, 2) := by decide +kernel
theorem dd_M_years_11 : decode c_M_years 11 = .ok (.invokestatic 205, 3) := by decide +kernel
theorem dd_M_years_14 : decode c_M_years 14 = .ok (.ifCond .ne 5, 3) := by decide +kernel
theorem dd_M_years_17 : decode c_M_years 17 = .ok (.iconst (-1), 1) := by decide +kernel
theorem dd_M_years_18 : decode c_M_years 18 = .ok (.ireturn, 1) := by decide +kernel
theorem dd_M_years_19 : decode c_M_years 19 = .ok (.aload_n 0, 1) := by decide +kernel
theorem dd_M_years_20 : decode c_M_years 20 = .ok (.lload_n 2, 1) := by decide +kernel
theorem dd_M_years_21 : decode c_M_years 21 = .ok (.putfield 335, 3) := by decide +kernel
theorem dd_M_years_24 : decode c_M_years 24 = .ok (.iconst 0, 1) := by decide +kernel
theorem dd_M_years_25 : decode c_M_years 25 = .ok (.istore 4, 2) := by decide +kernel
theorem dd_M_years_27 : decode c_M_years 27 = .ok (.iload 4, 2) := by decide +kernel
theorem dd_M_years_29 : decode c_M_years 29 = .ok (.iload_n 1, 1) := by decide +kernel
theorem dd_M_years_30 : decode c_M_years 30 = .ok (.if_icmp .ge 17, 3) := by decide +kernel
theorem dd_M_years_33 : decode c_M_years 33 = .ok (.aload_n 0, 1) := by decide +kernel
theorem dd_M_years_34 : decode c_M_years 34 = .ok (.invokevirtual 321, 3) := by decide +kernel
theorem dd_M_years_37 : decode c_M_years 37 = .ok (.aload_n 0, 1) := by decide +kernel
theorem dd_M_years_38 : decode c_M_years 38 = .ok (.invokevirtual 346, 3) := by decide +kernel
theorem dd_M_years_41 : decode c_M_years 41 = .ok (.iinc 4 1, 3) := by decide +kernel
theorem dd_M_years_44 : decode c_M_years 44 = .ok (.goto (-17), 3) := by decide +kernel
theorem dd_M_years_47 : decode c_M_years 47 = .ok (.aload_n 0, 1) := by decide +kernel
theorem dd_M_years_48 : decode c_M_years 48 = .ok (.getfield 58, 3) := by decide +kernel
theorem dd_M_years_51 : decode c_M_years 51 = .ok (.bipush 45, 2) := by decide +kernel
theorem dd_M_years_53 : decode c_M_years 53 = .ok (.iaload, 1) := by decide +kernel
theorem dd_M_years_54 : decode c_M_years 54 = .ok (.ireturn, 1) := by decide +kernel
theorem dd_W_status_0 : decode c_W_status 0 = .ok (.iload_n 1, 1) := by decide +kernel
theorem dd_W_status_1 : decode c_W_status 1 = .ok (.ifCond .lt 21, 3) := by decide +kernel
theorem dd_W_status_4 : decode c_W_status 4 = .ok (.iload_n 1, 1) := by decide +kernel
theorem dd_W_status_5 : decode c_W_status 5 = .ok (.aload_n 0, 1) := by decide +kernel
theorem dd_W_status_6 : decode c_W_status 6 = .ok (.getfield 94, 3) := by decide +kernel
theorem dd_W_status_9 : decode c_W_status 9 = .ok (.arraylength, 1) := by decide +kernel
theorem dd_W_status_10 : decode c_W_status 10 = .ok (.if_icmp .ge 12, 3) := by decide +kernel
theorem dd_W_status_13 : decode c_W_status 13 = .ok (.aload_n 0, 1) := by decide +kernel
theorem dd_W_status_14 : decode c_W_status 14 = .ok (.getfield 94, 3) := by decide +kernel
theorem dd_W_status_17 : decode c_W_status 17 = .ok (.iload_n 1, 1) := by decide +kernel
theorem dd_W_status_18 : decode c_W_status 18 = .ok (.iaload, 1) := by decide +kernel
theorem dd_W_status_19 : decode c_W_status 19 = .ok (.goto 4, 3) := by decide +kernel
theorem dd_W_status_22 : decode c_W_status 22 = .ok (.iconst (-1), 1) := by decide +kernel
theorem dd_W_status_23 : decode c_W_status 23 = .ok (.ireturn, 1) := by decide +kernel
theorem dd_M_status_0 : decode c_M_status 0 = .ok (.iload_n 1, 1) := by decide +kernel
theorem dd_M_status_1 : decode c_M_status 1 = .ok (.iconst 0, 1) := by decide +kernel
theorem dd_M_status_2 : decode c_M_status 2 = .ok (.iconst 4, 1) := by decide +kernel
theorem dd_M_status_3 : decode c_M_status 3 = .ok (.invokestatic 205, 3) := by decide +kernel
theorem dd_M_status_6 : decode c_M_status 6 = .ok (.ifCond .eq 12, 3) := by decide +kernel
theorem dd_M_status_9 : decode c_M_status 9 = .ok (.aload_n 0, 1) := by decide +kernel
theorem dd_M_status_10 : decode c_M_status 10 = .ok (.getfield 61, 3) := by decide +kernel
theorem dd_M_status_13 : decode c_M_status 13 = .ok (.iload_n 1, 1) := by decide +kernel
theorem dd_M_status_14 : decode c_M_status 14 = .ok (.iaload, 1) := by decide +kernel
theorem dd_M_status_15 : decode c_M_status 15 = .ok (.goto 4, 3) := by decide +kernel
theorem dd_M_status_18 : decode c_M_status 18 = .ok (.iconst (-1), 1) := by decide +kernel
theorem dd_M_status_19 : decode c_M_status 19 = .ok (.ireturn, 1) := by decide +kernel
theorem dd_Stand_load_0 : decode c_Stand_load 0 = .ok (.aload_n 0, 1) := by decide +kernel
theorem dd_Stand_load_1 : decode c_Stand_load 1 = .ok (.aload_n 1, 1) := by decide +kernel
theorem dd_Stand_load_2 : decode c_Stand_load 2 = .ok (.iload_n 2, 1) := by decide +kernel
theorem dd_Stand_load_3 : decode c_Stand_load 3 = .ok (.iaload, 1) := by decide +kernel
theorem dd_Stand_load_4 : decode c_Stand_load 4 = .ok (.putfield 29, 3) := by decide +kernel
theorem dd_Stand_load_7 : decode c_Stand_load 7 = .ok (.aload_n 0, 1) := by decide +kernel
theorem dd_Stand_load_8 : decode c_Stand_load 8 = .ok (.aload_n 1, 1) := by decide +kernel
theorem dd_Stand_load_9 : decode c_Stand_load 9 = .ok (.iload_n 2, 1) := by decide +kernel
theorem dd_Stand_load_10 : decode c_Stand_load 10 = .ok (.iconst 1, 1) := by decide +kernel
theorem dd_Stand_load_11 : decode c_Stand_load 11 = .ok (.iadd, 1) := by decide +kernel
theorem dd_Stand_load_12 : decode c_Stand_load 12 = .ok (.iaload, 1) := by decide +kernel
theorem dd_Stand_load_13 : decode c_Stand_load 13 = .ok (.putfield 37, 3) := by decide +kernel
theorem dd_Stand_load_16 : decode c_Stand_load 16 = .ok (.aload_n 0, 1) := by decide +kernel
theorem dd_Stand_load_17 : decode c_Stand_load 17 = .ok (.aload_n 1, 1) := by decide +kernel
theorem dd_Stand_load_18 : decode c_Stand_load 18 = .ok (.iload_n 2, 1) := by decide +kernel
theorem dd_Stand_load_19 : decode c_Stand_load 19 = .ok (.iconst 2, 1) := by decide +kernel
theorem dd_Stand_load_20 : decode c_Stand_load 20 = .ok (.iadd, 1) := by decide +kernel
theorem dd_Stand_load_21 : decode c_Stand_load 21 = .ok (.iaload, 1) := by decide +kernel
theorem dd_Stand_load_22 : decode c_Stand_load 22 = .ok (.putfield 41, 3) := by decide +kernel
theorem dd_Stand_load_25 : decode c_Stand_load 25 = .ok (.aload_n 0, 1) := by decide +kernel
theorem dd_Stand_load_26 : decode c_Stand_load 26 = .ok (.aload_n 1, 1) := by decide +kernel
theorem dd_Stand_load_27 : decode c_Stand_load 27 = .ok (.iload_n 2, 1) := by decide +kernel
theorem dd_Stand_load_28 : decode c_Stand_load 28 = .ok (.iconst 3, 1) := by decide +kernel
theorem dd_Stand_load_29 : decode c_Stand_load 29 = .ok (.iadd, 1) := by decide +kernel
theorem dd_Stand_load_30 : decode c_Stand_load 30 = .ok (.iaload, 1) := by decide +kernel
theorem dd_Stand_load_31 : decode c_Stand_load 31 = .ok (.putfield 42, 3) := by decide +kernel
theorem dd_Stand_load_34 : decode c_Stand_load 34 = .ok (.aload_n 0, 1) := by decide +kernel
theorem dd_Stand_load_35 : decode c_Stand_load 35 = .ok (.aload_n 1, 1) := by decide +kernel
theorem dd_Stand_load_36 : decode c_Stand_load 36 = .ok (.iload_n 2, 1) := by decide +kernel
theorem dd_Stand_load_37 : decode c_Stand_load 37 = .ok (.iconst 4, 1) := by decide +kernel
theorem dd_Stand_load_38 : decode c_Stand_load 38 = .ok (.iadd, 1) := by decide +kernel
theorem dd_Stand_load_39 : decode c_Stand_load 39 = .ok (.iaload, 1) := by decide +kernel
theorem dd_Stand_load_40 : decode c_Stand_load 40 = .ok (.putfield 45, 3) := by decide +kernel
theorem dd_Stand_load_43 : decode c_Stand_load 43 = .ok (.aload_n 0, 1) := by decide +kernel
theorem dd_Stand_load_44 : decode c_Stand_load 44 = .ok (.aload_n 1, 1) := by decide +kernel
theorem dd_Stand_load_45 : decode c_Stand_load 45 = .ok (.iload_n 2, 1) := by decide +kernel
theorem dd_Stand_load_46 : decode c_Stand_load 46 = .ok (.iconst 5, 1) := by decide +kernel
theorem dd_Stand_load_47 : decode c_Stand_load 47 = .ok (.iadd, 1) := by decide +kernel
theorem dd_Stand_load_48 : decode c_Stand_load 48 = .ok (.iaload, 1) := by decide +kernel
theorem dd_Stand_load_49 : decode c_Stand_load 49 = .ok (.putfield 48, 3) := by decide +kernel
theorem dd_Stand_load_52 : decode c_Stand_load 52 = .ok (.aload_n 0, 1) := by decide +kernel
theorem dd_Stand_load_53 : decode c_Stand_load 53 = .ok (.aload_n 1, 1) := by decide +kernel
theorem dd_Stand_load_54 : decode c_Stand_load 54 = .ok (.iload_n 2, 1) := by decide +kernel
theorem dd_Stand_load_55 : decode c_Stand_load 55 = .ok (.bipush 6, 2) := by decide +kernel
theorem dd_Stand_load_57 : decode c_Stand_load 57 = .ok (.iadd, 1) := by decide +kernel
theorem dd_Stand_load_58 : decode c_Stand_load 58 = .ok (.iaload, 1) := by decide +kernel
theorem dd_Stand_load_59 : decode c_Stand_load 59 = .ok (.putfield 51, 3) := by decide +kernel
theorem dd_Stand_load_62 : decode c_Stand_load 62 = .ok (.aload_n 1, 1) := by decide +kernel
theorem dd_Stand_load_63 : decode c_Stand_load 63 = .ok (.iload_n 2, 1) := by decide +kernel
theorem dd_Stand_load_64 : decode c_Stand_load 64 = .ok (.bipush 7, 2) := by decide +kernel
theorem dd_Stand_load_66 : decode c_Stand_load 66 = .ok (.iadd, 1) := by decide +kernel
theorem dd_Stand_load_67 : decode c_Stand_load 67 = .ok (.aload_n 0, 1) := by decide +kernel
theorem dd_Stand_load_68 : decode c_Stand_load 68 = .ok (.getfield 13, 3) := by decide +kernel
theorem dd_Stand_load_71 : decode c_Stand_load 71 = .ok (.iconst 0, 1) := by decide +kernel
theorem dd_Stand_load_72 : decode c_Stand_load 72 = .ok (.bipush 6, 2) := by decide +kernel
theorem dd_Stand_load_74 : decode c_Stand_load 74 = .ok (.invokestatic 55, 3) := by decide +kernel
theorem dd_Stand_load_77 : decode c_Stand_load 77 = .ok (.aload_n 1, 1) := by decide +kernel
theorem dd_Stand_load_78 : decode c_Stand_load 78 = .ok (.iload_n 2, 1) := by decide +kernel
theorem dd_Stand_load_79 : decode c_Stand_load 79 = .ok (.bipush 7, 2) := by decide +kernel
theorem dd_Stand_load_81 : decode c_Stand_load 81 = .ok (.iadd, 1) := by decide +kernel
theorem dd_Stand_load_82 : decode c_Stand_load 82 = .ok (.bipush 6, 2) := by decide +kernel
theorem dd_Stand_load_84 : decode c_Stand_load 84 = .ok (.iadd, 1) := by decide +kernel
theorem dd_Stand_load_85 : decode c_Stand_load 85 = .ok (.aload_n 0, 1) := by decide +kernel
theorem dd_Stand_load_86 : decode c_Stand_load 86 = .ok (.getfield 17, 3) := by decide +kernel
theorem dd_Stand_load_89 : decode c_Stand_load 89 = .ok (.iconst 0, 1) := by decide +kernel
theorem dd_Stand_load_90 : decode c_Stand_load 90 = .ok (.bipush 36, 2) := by decide +kernel
theorem dd_Stand_load_92 : decode c_Stand_load 92 = .ok (.invokestatic 55, 3) := by decide +kernel
theorem dd_Stand_load_95 : decode c_Stand_load 95 = .ok (.return_, 1) := by decide +kernel
