/-! ===== decode rows ===== -/
theorem dd_Past_takeBack_0 : decode c_Past_takeBack 0 = .ok (.aload_n 0, 1) := by decide +kernel
theorem dd_Past_takeBack_1 : decode c_Past_takeBack 1 = .ok (.getfield 21, 3) := by decide +kernel
theorem dd_Past_takeBack_4 : decode c_Past_takeBack 4 = .ok (.ifCond .le 44, 3) := by decide +kernel
theorem dd_Past_takeBack_7 : decode c_Past_takeBack 7 = .ok (.aload_n 0, 1) := by decide +kernel
theorem dd_Past_takeBack_8 : decode c_Past_takeBack 8 = .ok (.aload_n 0, 1) := by decide +kernel
theorem dd_Past_takeBack_9 : decode c_Past_takeBack 9 = .ok (.getfield 29, 3) := by decide +kernel
theorem dd_Past_takeBack_12 : decode c_Past_takeBack 12 = .ok (.bipush 40, 2) := by decide +kernel
theorem dd_Past_takeBack_14 : decode c_Past_takeBack 14 = .ok (.iadd, 1) := by decide +kernel
theorem dd_Past_takeBack_15 : decode c_Past_takeBack 15 = .ok (.iconst 1, 1) := by decide +kernel
theorem dd_Past_takeBack_16 : decode c_Past_takeBack 16 = .ok (.isub, 1) := by decide +kernel
theorem dd_Past_takeBack_17 : decode c_Past_takeBack 17 = .ok (.bipush 40, 2) := by decide +kernel
theorem dd_Past_takeBack_19 : decode c_Past_takeBack 19 = .ok (.irem, 1) := by decide +kernel
theorem dd_Past_takeBack_20 : decode c_Past_takeBack 20 = .ok (.putfield 29, 3) := by decide +kernel
theorem dd_Past_takeBack_23 : decode c_Past_takeBack 23 = .ok (.aload_n 0, 1) := by decide +kernel
theorem dd_Past_takeBack_24 : decode c_Past_takeBack 24 = .ok (.dup, 1) := by decide +kernel
theorem dd_Past_takeBack_25 : decode c_Past_takeBack 25 = .ok (.getfield 21, 3) := by decide +kernel
theorem dd_Past_takeBack_28 : decode c_Past_takeBack 28 = .ok (.iconst 1, 1) := by decide +kernel
theorem dd_Past_takeBack_29 : decode c_Past_takeBack 29 = .ok (.isub, 1) := by decide +kernel
theorem dd_Past_takeBack_30 : decode c_Past_takeBack 30 = .ok (.putfield 21, 3) := by decide +kernel
theorem dd_Past_takeBack_33 : decode c_Past_takeBack 33 = .ok (.aload_n 1, 1) := by decide +kernel
theorem dd_Past_takeBack_34 : decode c_Past_takeBack 34 = .ok (.aload_n 0, 1) := by decide +kernel
theorem dd_Past_takeBack_35 : decode c_Past_takeBack 35 = .ok (.getfield 11, 3) := by decide +kernel
theorem dd_Past_takeBack_38 : decode c_Past_takeBack 38 = .ok (.aload_n 0, 1) := by decide +kernel
theorem dd_Past_takeBack_39 : decode c_Past_takeBack 39 = .ok (.getfield 29, 3) := by decide +kernel
theorem dd_Past_takeBack_42 : decode c_Past_takeBack 42 = .ok (.bipush 49, 2) := by decide +kernel
theorem dd_Past_takeBack_44 : decode c_Past_takeBack 44 = .ok (.imul, 1) := by decide +kernel
theorem dd_Past_takeBack_45 : decode c_Past_takeBack 45 = .ok (.invokevirtual 42, 3) := by decide +kernel
theorem dd_Past_takeBack_48 : decode c_Past_takeBack 48 = .ok (.return_, 1) := by decide +kernel
theorem dd_W_undo_0 : decode c_W_undo 0 = .ok (.aload_n 0, 1) := by decide +kernel
theorem dd_W_undo_1 : decode c_W_undo 1 = .ok (.getfield 56, 3) := by decide +kernel
theorem dd_W_undo_4 : decode c_W_undo 4 = .ok (.getfield 265, 3) := by decide +kernel
theorem dd_W_undo_7 : decode c_W_undo 7 = .ok (.ifCond .ne 5, 3) := by decide +kernel
theorem dd_W_undo_10 : decode c_W_undo 10 = .ok (.iconst (-1), 1) := by decide +kernel
theorem dd_W_undo_11 : decode c_W_undo 11 = .ok (.ireturn, 1) := by decide +kernel
theorem dd_W_undo_12 : decode c_W_undo 12 = .ok (.aload_n 0, 1) := by decide +kernel
theorem dd_W_undo_13 : decode c_W_undo 13 = .ok (.getfield 56, 3) := by decide +kernel
theorem dd_W_undo_16 : decode c_W_undo 16 = .ok (.aload_n 0, 1) := by decide +kernel
theorem dd_W_undo_17 : decode c_W_undo 17 = .ok (.getfield 49, 3) := by decide +kernel
theorem dd_W_undo_20 : decode c_W_undo 20 = .ok (.invokevirtual 268, 3) := by decide +kernel
theorem dd_W_undo_23 : decode c_W_undo 23 = .ok (.aload_n 0, 1) := by decide +kernel
theorem dd_W_undo_24 : decode c_W_undo 24 = .ok (.getfield 56, 3) := by decide +kernel
theorem dd_W_undo_27 : decode c_W_undo 27 = .ok (.getfield 265, 3) := by decide +kernel
theorem dd_W_undo_30 : decode c_W_undo 30 = .ok (.ireturn, 1) := by decide +kernel
theorem dd_M_undo_0 : decode c_M_undo 0 = .ok (.aload_n 0, 1) := by decide +kernel
theorem dd_M_undo_1 : decode c_M_undo 1 = .ok (.getfield 257, 3) := by decide +kernel
theorem dd_M_undo_4 : decode c_M_undo 4 = .ok (.ifCond .ne 5, 3) := by decide +kernel
theorem dd_M_undo_7 : decode c_M_undo 7 = .ok (.iconst (-1), 1) := by decide +kernel
theorem dd_M_undo_8 : decode c_M_undo 8 = .ok (.ireturn, 1) := by decide +kernel
theorem dd_M_undo_9 : decode c_M_undo 9 = .ok (.aload_n 0, 1) := by decide +kernel
theorem dd_M_undo_10 : decode c_M_undo 10 = .ok (.dup, 1) := by decide +kernel
theorem dd_M_undo_11 : decode c_M_undo 11 = .ok (.getfield 257, 3) := by decide +kernel
theorem dd_M_undo_14 : decode c_M_undo 14 = .ok (.iconst 1, 1) := by decide +kernel
theorem dd_M_undo_15 : decode c_M_undo 15 = .ok (.isub, 1) := by decide +kernel
theorem dd_M_undo_16 : decode c_M_undo 16 = .ok (.putfield 257, 3) := by decide +kernel
theorem dd_M_undo_19 : decode c_M_undo 19 = .ok (.iconst 0, 1) := by decide +kernel
theorem dd_M_undo_20 : decode c_M_undo 20 = .ok (.istore_n 1, 1) := by decide +kernel
theorem dd_M_undo_21 : decode c_M_undo 21 = .ok (.iload_n 1, 1) := by decide +kernel
theorem dd_M_undo_22 : decode c_M_undo 22 = .ok (.sipush 229, 3) := by decide +kernel
theorem dd_M_undo_25 : decode c_M_undo 25 = .ok (.if_icmp .ge 30, 3) := by decide +kernel
theorem dd_M_undo_28 : decode c_M_undo 28 = .ok (.aload_n 0, 1) := by decide +kernel
theorem dd_M_undo_29 : decode c_M_undo 29 = .ok (.getfield 58, 3) := by decide +kernel
theorem dd_M_undo_32 : decode c_M_undo 32 = .ok (.iload_n 1, 1) := by decide +kernel
theorem dd_M_undo_33 : decode c_M_undo 33 = .ok (.aload_n 0, 1) := by decide +kernel
theorem dd_M_undo_34 : decode c_M_undo 34 = .ok (.getfield 71, 3) := by decide +kernel
theorem dd_M_undo_37 : decode c_M_undo 37 = .ok (.sipush 229, 3) := by decide +kernel
theorem dd_M_undo_40 : decode c_M_undo 40 = .ok (.aload_n 0, 1) := by decide +kernel
theorem dd_M_undo_41 : decode c_M_undo 41 = .ok (.getfield 257, 3) := by decide +kernel
theorem dd_M_undo_44 : decode c_M_undo 44 = .ok (.imul, 1) := by decide +kernel
theorem dd_M_undo_45 : decode c_M_undo 45 = .ok (.iload_n 1, 1) := by decide +kernel
theorem dd_M_undo_46 : decode c_M_undo 46 = .ok (.iadd, 1) := by decide +kernel
theorem dd_M_undo_47 : decode c_M_undo 47 = .ok (.iaload, 1) := by decide +kernel
theorem dd_M_undo_48 : decode c_M_undo 48 = .ok (.iastore, 1) := by decide +kernel
theorem dd_M_undo_49 : decode c_M_undo 49 = .ok (.iinc 1 1, 3) := by decide +kernel
theorem dd_M_undo_52 : decode c_M_undo 52 = .ok (.goto (-31), 3) := by decide +kernel
theorem dd_M_undo_55 : decode c_M_undo 55 = .ok (.aload_n 0, 1) := by decide +kernel
theorem dd_M_undo_56 : decode c_M_undo 56 = .ok (.getfield 257, 3) := by decide +kernel
theorem dd_M_undo_59 : decode c_M_undo 59 = .ok (.ireturn, 1) := by decide +kernel
theorem dd_Stand_logSize_0 : decode c_Stand_logSize 0 = .ok (.aload_n 0, 1) := by decide +kernel
theorem dd_Stand_logSize_1 : decode c_Stand_logSize 1 = .ok (.getfield 51, 3) := by decide +kernel
theorem dd_Stand_logSize_4 : decode c_Stand_logSize 4 = .ok (.bipush 60, 2) := by decide +kernel
theorem dd_Stand_logSize_6 : decode c_Stand_logSize 6 = .ok (.invokestatic 83, 3) := by decide +kernel
theorem dd_Stand_logSize_9 : decode c_Stand_logSize 9 = .ok (.ireturn, 1) := by decide +kernel
theorem dd_Stand_telling_0 : decode c_Stand_telling 0 = .ok (.aload_n 0, 1) := by decide +kernel
theorem dd_Stand_telling_1 : decode c_Stand_telling 1 = .ok (.getfield 51, 3) := by decide +kernel
theorem dd_Stand_telling_4 : decode c_Stand_telling 4 = .ok (.iconst 1, 1) := by decide +kernel
theorem dd_Stand_telling_5 : decode c_Stand_telling 5 = .ok (.isub, 1) := by decide +kernel
theorem dd_Stand_telling_6 : decode c_Stand_telling 6 = .ok (.iload_n 1, 1) := by decide +kernel
theorem dd_Stand_telling_7 : decode c_Stand_telling 7 = .ok (.isub, 1) := by decide +kernel
theorem dd_Stand_telling_8 : decode c_Stand_telling 8 = .ok (.istore_n 2, 1) := by decide +kernel
theorem dd_Stand_telling_9 : decode c_Stand_telling 9 = .ok (.iload_n 2, 1) := by decide +kernel
theorem dd_Stand_telling_10 : decode c_Stand_telling 10 = .ok (.ifCond .lt 15, 3) := by decide +kernel
theorem dd_Stand_telling_13 : decode c_Stand_telling 13 = .ok (.aload_n 0, 1) := by decide +kernel
theorem dd_Stand_telling_14 : decode c_Stand_telling 14 = .ok (.getfield 20, 3) := by decide +kernel
theorem dd_Stand_telling_17 : decode c_Stand_telling 17 = .ok (.iload_n 2, 1) := by decide +kernel
theorem dd_Stand_telling_18 : decode c_Stand_telling 18 = .ok (.bipush 100, 2) := by decide +kernel
theorem dd_Stand_telling_20 : decode c_Stand_telling 20 = .ok (.irem, 1) := by decide +kernel
theorem dd_Stand_telling_21 : decode c_Stand_telling 21 = .ok (.iaload, 1) := by decide +kernel
theorem dd_Stand_telling_22 : decode c_Stand_telling 22 = .ok (.goto 4, 3) := by decide +kernel
theorem dd_Stand_telling_25 : decode c_Stand_telling 25 = .ok (.iconst 0, 1) := by decide +kernel
theorem dd_Stand_telling_26 : decode c_Stand_telling 26 = .ok (.ireturn, 1) := by decide +kernel
theorem dd_W_log_0 : decode c_W_log 0 = .ok (.iload_n 1, 1) := by decide +kernel
theorem dd_W_log_1 : decode c_W_log 1 = .ok (.ifCond .lt 14, 3) := by decide +kernel
theorem dd_W_log_4 : decode c_W_log 4 = .ok (.iload_n 1, 1) := by decide +kernel
theorem dd_W_log_5 : decode c_W_log 5 = .ok (.aload_n 0, 1) := by decide +kernel
theorem dd_W_log_6 : decode c_W_log 6 = .ok (.getfield 49, 3) := by decide +kernel
theorem dd_W_log_9 : decode c_W_log 9 = .ok (.invokevirtual 271, 3) := by decide +kernel
theorem dd_W_log_12 : decode c_W_log 12 = .ok (.if_icmp .lt 5, 3) := by decide +kernel
theorem dd_W_log_15 : decode c_W_log 15 = .ok (.iconst (-1), 1) := by decide +kernel
theorem dd_W_log_16 : decode c_W_log 16 = .ok (.ireturn, 1) := by decide +kernel
theorem dd_W_log_17 : decode c_W_log 17 = .ok (.aload_n 0, 1) := by decide +kernel
theorem dd_W_log_18 : decode c_W_log 18 = .ok (.getfield 49, 3) := by decide +kernel
theorem dd_W_log_21 : decode c_W_log 21 = .ok (.iload_n 1, 1) := by decide +kernel
theorem dd_W_log_22 : decode c_W_log 22 = .ok (.invokevirtual 274, 3) := by decide +kernel
theorem dd_W_log_25 : decode c_W_log 25 = .ok (.istore_n 3, 1) := by decide +kernel
theorem dd_W_log_26 : decode c_W_log 26 = .ok (.iload_n 2, 1) := by decide +kernel
theorem dd_W_log_27 : decode c_W_log 27 = .ok (.tableswitch 44 0 2 #[25, 31, 39], 25) := by decide +kernel
theorem dd_W_log_52 : decode c_W_log 52 = .ok (.iload_n 3, 1) := by decide +kernel
theorem dd_W_log_53 : decode c_W_log 53 = .ok (.sipush 1000, 3) := by decide +kernel
theorem dd_W_log_56 : decode c_W_log 56 = .ok (.idiv, 1) := by decide +kernel
theorem dd_W_log_57 : decode c_W_log 57 = .ok (.ireturn, 1) := by decide +kernel
theorem dd_W_log_58 : decode c_W_log 58 = .ok (.iload_n 3, 1) := by decide +kernel
theorem dd_W_log_59 : decode c_W_log 59 = .ok (.bipush 100, 2) := by decide +kernel
theorem dd_W_log_61 : decode c_W_log 61 = .ok (.idiv, 1) := by decide +kernel
theorem dd_W_log_62 : decode c_W_log 62 = .ok (.bipush 10, 2) := by decide +kernel
theorem dd_W_log_64 : decode c_W_log 64 = .ok (.irem, 1) := by decide +kernel
theorem dd_W_log_65 : decode c_W_log 65 = .ok (.ireturn, 1) := by decide +kernel
theorem dd_W_log_66 : decode c_W_log 66 = .ok (.iload_n 3, 1) := by decide +kernel
theorem dd_W_log_67 : decode c_W_log 67 = .ok (.bipush 100, 2) := by decide +kernel
theorem dd_W_log_69 : decode c_W_log 69 = .ok (.irem, 1) := by decide +kernel
theorem dd_W_log_70 : decode c_W_log 70 = .ok (.ireturn, 1) := by decide +kernel
theorem dd_W_log_71 : decode c_W_log 71 = .ok (.iconst (-1), 1) := by decide +kernel
theorem dd_W_log_72 : decode c_W_log 72 = .ok (.ireturn, 1) := by decide +kernel
theorem dd_M_log_0 : decode c_M_log 0 = .ok (.iload_n 1, 1) := by decide +kernel
theorem dd_M_log_1 : decode c_M_log 1 = .ok (.iconst 0, 1) := by decide +kernel
theorem dd_M_log_2 : decode c_M_log 2 = .ok (.aload_n 0, 1) := by decide +kernel
theorem dd_M_log_3 : decode c_M_log 3 = .ok (.getfield 58, 3) := by decide +kernel
theorem dd_M_log_6 : decode c_M_log 6 = .ok (.bipush 48, 2) := by decide +kernel
theorem dd_M_log_8 : decode c_M_log 8 = .ok (.iaload, 1) := by decide +kernel
theorem dd_M_log_9 : decode c_M_log 9 = .ok (.iconst 1, 1) := by decide +kernel
theorem dd_M_log_10 : decode c_M_log 10 = .ok (.isub, 1) := by decide +kernel
theorem dd_M_log_11 : decode c_M_log 11 = .ok (.invokestatic 205, 3) := by decide +kernel
theorem dd_M_log_14 : decode c_M_log 14 = .ok (.ifCond .eq 38, 3) := by decide +kernel
theorem dd_M_log_17 : decode c_M_log 17 = .ok (.iload_n 2, 1) := by decide +kernel
theorem dd_M_log_18 : decode c_M_log 18 = .ok (.iconst 0, 1) := by decide +kernel
theorem dd_M_log_19 : decode c_M_log 19 = .ok (.iconst 2, 1) := by decide +kernel
theorem dd_M_log_20 : decode c_M_log 20 = .ok (.invokestatic 205, 3) := by decide +kernel
theorem dd_M_log_23 : decode c_M_log 23 = .ok (.ifCond .eq 29, 3) := by decide +kernel
theorem dd_M_log_26 : decode c_M_log 26 = .ok (.aload_n 0, 1) := by decide +kernel
theorem dd_M_log_27 : decode c_M_log 27 = .ok (.getfield 58, 3) := by decide +kernel
theorem dd_M_log_30 : decode c_M_log 30 = .ok (.bipush 49, 2) := by decide +kernel
theorem dd_M_log_32 : decode c_M_log 32 = .ok (.iconst 3, 1) := by decide +kernel
theorem dd_M_log_33 : decode c_M_log 33 = .ok (.aload_n 0, 1) := by decide +kernel
theorem dd_M_log_34 : decode c_M_log 34 = .ok (.getfield 58, 3) := by decide +kernel
theorem dd_M_log_37 : decode c_M_log 37 = .ok (.bipush 48, 2) := by decide +kernel
theorem dd_M_log_39 : decode c_M_log 39 = .ok (.iaload, 1) := by decide +kernel
theorem dd_M_log_40 : decode c_M_log 40 = .ok (.iconst 1, 1) := by decide +kernel
theorem dd_M_log_41 : decode c_M_log 41 = .ok (.isub, 1) := by decide +kernel
theorem dd_M_log_42 : decode c_M_log 42 = .ok (.iload_n 1, 1) := by decide +kernel
theorem dd_M_log_43 : decode c_M_log 43 = .ok (.isub, 1) := by decide +kernel
theorem dd_M_log_44 : decode c_M_log 44 = .ok (.imul, 1) := by decide +kernel
theorem dd_M_log_45 : decode c_M_log 45 = .ok (.iadd, 1) := by decide +kernel
theorem dd_M_log_46 : decode c_M_log 46 = .ok (.iload_n 2, 1) := by decide +kernel
theorem dd_M_log_47 : decode c_M_log 47 = .ok (.iadd, 1) := by decide +kernel
theorem dd_M_log_48 : decode c_M_log 48 = .ok (.iaload, 1) := by decide +kernel
theorem dd_M_log_49 : decode c_M_log 49 = .ok (.goto 4, 3) := by decide +kernel
theorem dd_M_log_52 : decode c_M_log 52 = .ok (.iconst (-1), 1) := by decide +kernel
theorem dd_M_log_53 : decode c_M_log 53 = .ok (.ireturn, 1) := by decide +kernel
theorem dd_Plans_findBest_0 : decode c_Plans_findBest 0 = .ok (.aload_n 0, 1) := by decide +kernel
theorem dd_Plans_findBest_1 : decode c_Plans_findBest 1 = .ok (.iconst (-1), 1) := by decide +kernel
theorem dd_Plans_findBest_2 : decode c_Plans_findBest 2 = .ok (.putfield 36, 3) := by decide +kernel
theorem dd_Plans_findBest_5 : decode c_Plans_findBest 5 = .ok (.aload_n 0, 1) := by decide +kernel
theorem dd_Plans_findBest_6 : decode c_Plans_findBest 6 = .ok (.iconst (-1), 1) := by decide +kernel
theorem dd_Plans_findBest_7 : decode c_Plans_findBest 7 = .ok (.putfield 40, 3) := by decide +kernel
theorem dd_Plans_findBest_10 : decode c_Plans_findBest 10 = .ok (.iconst 0, 1) := by decide +kernel
theorem dd_Plans_findBest_11 : decode c_Plans_findBest 11 = .ok (.istore_n 3, 1) := by decide +kernel
theorem dd_Plans_findBest_12 : decode c_Plans_findBest 12 = .ok (.iload_n 3, 1) := by decide +kernel
theorem dd_Plans_findBest_13 : decode c_Plans_findBest 13 = .ok (.aload_n 0, 1) := by decide +kernel
theorem dd_Plans_findBest_14 : decode c_Plans_findBest 14 = .ok (.getfield 24, 3) := by decide +kernel
theorem dd_Plans_findBest_17 : decode c_Plans_findBest 17 = .ok (.getfield 43, 3) := by decide +kernel
theorem dd_Plans_findBest_20 : decode c_Plans_findBest 20 = .ok (.if_icmp .ge 68, 3) := by decide +kernel
theorem dd_Plans_findBest_23 : decode c_Plans_findBest 23 = .ok (.aload_n 0, 1) := by decide +kernel
theorem dd_Plans_findBest_24 : decode c_Plans_findBest 24 = .ok (.getfield 28, 3) := by decide +kernel
theorem dd_Plans_findBest_27 : decode c_Plans_findBest 27 = .ok (.iload_n 3, 1) := by decide +kernel
theorem dd_Plans_findBest_28 : decode c_Plans_findBest 28 = .ok (.invokevirtual 48, 3) := by decide +kernel
theorem dd_Plans_findBest_31 : decode c_Plans_findBest 31 = .ok (.ifCond .eq 51, 3) := by decide +kernel
theorem dd_Plans_findBest_34 : decode c_Plans_findBest 34 = .ok (.aload_n 0, 1) := by decide +kernel
theorem dd_Plans_findBest_35 : decode c_Plans_findBest 35 = .ok (.getfield 32, 3) := by decide +kernel
theorem dd_Plans_findBest_38 : decode c_Plans_findBest 38 = .ok (.iload_n 1, 1) := by decide +kernel
theorem dd_Plans_findBest_39 : decode c_Plans_findBest 39 = .ok (.iload_n 3, 1) := by decide +kernel
theorem dd_Plans_findBest_40 : decode c_Plans_findBest 40 = .ok (.aload_n 2, 1) := by decide +kernel
theorem dd_Plans_findBest_41 : decode c_Plans_findBest 41 = .ok (.iload_n 1, 1) := by decide +kernel
theorem dd_Plans_findBest_42 : decode c_Plans_findBest 42 = .ok (.bipush 6, 2) := by decide +kernel
theorem dd_Plans_findBest_44 : decode c_Plans_findBest 44 = .ok (.imul, 1) := by decide +kernel
theorem dd_Plans_findBest_45 : decode c_Plans_findBest 45 = .ok (.iload_n 3, 1) := by decide +kernel
theorem dd_Plans_findBest_46 : decode c_Plans_findBest 46 = .ok (.iadd, 1) := by decide +kernel
theorem dd_Plans_findBest_47 : decode c_Plans_findBest 47 = .ok (.iaload, 1) := by decide +kernel
theorem dd_Plans_findBest_48 : decode c_Plans_findBest 48 = .ok (.aload_n 0, 1) := by decide +kernel
theorem dd_Plans_findBest_49 : decode c_Plans_findBest 49 = .ok (.getfield 28, 3) := by decide +kernel
theorem dd_Plans_findBest_52 : decode c_Plans_findBest 52 = .ok (.getfield 54, 3) := by decide +kernel
theorem dd_Plans_findBest_55 : decode c_Plans_findBest 55 = .ok (.iload_n 3, 1) := by decide +kernel
theorem dd_Plans_findBest_56 : decode c_Plans_findBest 56 = .ok (.iaload, 1) := by decide +kernel
theorem dd_Plans_findBest_57 : decode c_Plans_findBest 57 = .ok (.invokevirtual 57, 3) := by decide +kernel
theorem dd_Plans_findBest_60 : decode c_Plans_findBest 60 = .ok (.istore 4, 2) := by decide +kernel
theorem dd_Plans_findBest_62 : decode c_Plans_findBest 62 = .ok (.iload 4, 2) := by decide +kernel
theorem dd_Plans_findBest_64 : decode c_Plans_findBest 64 = .ok (.aload_n 0, 1) := by decide +kernel
theorem dd_Plans_findBest_65 : decode c_Plans_findBest 65 = .ok (.getfield 40, 3) := by decide +kernel
theorem dd_Plans_findBest_68 : decode c_Plans_findBest 68 = .ok (.if_icmp .le 14, 3) := by decide +kernel
theorem dd_Plans_findBest_71 : decode c_Plans_findBest 71 = .ok (.aload_n 0, 1) := by decide +kernel
theorem dd_Plans_findBest_72 : decode c_Plans_findBest 72 = .ok (.iload 4, 2) := by decide +kernel
theorem dd_Plans_findBest_74 : decode c_Plans_findBest 74 = .ok (.putfield 40, 3) := by decide +kernel
theorem dd_Plans_findBest_77 : decode c_Plans_findBest 77 = .ok (.aload_n 0, 1) := by decide +kernel
theorem dd_Plans_findBest_78 : decode c_Plans_findBest 78 = .ok (.iload_n 3, 1) := by decide +kernel
theorem dd_Plans_findBest_79 : decode c_Plans_findBest 79 = .ok (.putfield 36, 3) := by decide +kernel
theorem dd_Plans_findBest_82 : decode c_Plans_findBest 82 = .ok (.iinc 3 1, 3) := by decide +kernel
theorem dd_Plans_findBest_85 : decode c_Plans_findBest 85 = .ok (.goto (-73), 3) := by decide +kernel
theorem dd_Plans_findBest_88 : decode c_Plans_findBest 88 = .ok (.return_, 1) := by decide +kernel
theorem dd_W_best_0 : decode c_W_best 0 = .ok (.aload_n 0, 1) := by decide +kernel
theorem dd_W_best_1 : decode c_W_best 1 = .ok (.getfield 42, 3) := by decide +kernel
theorem dd_W_best_4 : decode c_W_best 4 = .ok (.iload_n 1, 1) := by decide +kernel
theorem dd_W_best_5 : decode c_W_best 5 = .ok (.invokevirtual 150, 3) := by decide +kernel
theorem dd_W_best_8 : decode c_W_best 8 = .ok (.ifCond .eq 12, 3) := by decide +kernel
theorem dd_W_best_11 : decode c_W_best 11 = .ok (.iload_n 2, 1) := by decide +kernel
theorem dd_W_best_12 : decode c_W_best 12 = .ok (.ifCond .lt 8, 3) := by decide +kernel
theorem dd_W_best_15 : decode c_W_best 15 = .ok (.iload_n 2, 1) := by decide +kernel
theorem dd_W_best_16 : decode c_W_best 16 = .ok (.iconst 1, 1) := by decide +kernel
theorem dd_W_best_17 : decode c_W_best 17 = .ok (.if_icmp .le 5, 3) := by decide +kernel
theorem dd_W_best_20 : decode c_W_best 20 = .ok (.iconst (-1), 1) := by decide +kernel
theorem dd_W_best_21 : decode c_W_best 21 = .ok (.ireturn, 1) := by decide +kernel
theorem dd_W_best_22 : decode c_W_best 22 = .ok (.aload_n 0, 1) := by decide +kernel
theorem dd_W_best_23 : decode c_W_best 23 = .ok (.getfield 83, 3) := by decide +kernel
theorem dd_W_best_26 : decode c_W_best 26 = .ok (.iload_n 1, 1) := by decide +kernel
theorem dd_W_best_27 : decode c_W_best 27 = .ok (.aload_n 0, 1) := by decide +kernel
theorem dd_W_best_28 : decode c_W_best 28 = .ok (.getfield 49, 3) := by decide +kernel
theorem dd_W_best_31 : decode c_W_best 31 = .ok (.getfield 185, 3) := by decide +kernel
theorem dd_W_best_34 : decode c_W_best 34 = .ok (.invokevirtual 277, 3) := by decide +kernel
theorem dd_W_best_37 : decode c_W_best 37 = .ok (.iload_n 2, 1) := by decide +kernel
theorem dd_W_best_38 : decode c_W_best 38 = .ok (.ifCond .ne 13, 3) := by decide +kernel
theorem dd_W_best_41 : decode c_W_best 41 = .ok (.aload_n 0, 1) := by decide +kernel
theorem dd_W_best_42 : decode c_W_best 42 = .ok (.getfield 83, 3) := by decide +kernel
theorem dd_W_best_45 : decode c_W_best 45 = .ok (.getfield 281, 3) := by decide +kernel
theorem dd_W_best_48 : decode c_W_best 48 = .ok (.goto 10, 3) := by decide +kernel
theorem dd_W_best_51 : decode c_W_best 51 = .ok (.aload_n 0, 1) := by decide +kernel
theorem dd_W_best_52 : decode c_W_best 52 = .ok (.getfield 83, 3) := by decide +kernel
theorem dd_W_best_55 : decode c_W_best 55 = .ok (.getfield 284, 3) := by decide +kernel
theorem dd_W_best_58 : decode c_W_best 58 = .ok (.ireturn, 1) := by decide +kernel
theorem dd_M_bestIn_0 : decode c_M_bestIn 0 = .ok (.iconst (-1), 1) := by decide +kernel
theorem dd_M_bestIn_1 : decode c_M_bestIn 1 = .ok (.istore_n 2, 1) := by decide +kernel
theorem dd_M_bestIn_2 : decode c_M_bestIn 2 = .ok (.iconst 0, 1) := by decide +kernel
theorem dd_M_bestIn_3 : decode c_M_bestIn 3 = .ok (.istore_n 3, 1) := by decide +kernel
theorem dd_M_bestIn_4 : decode c_M_bestIn 4 = .ok (.iload_n 3, 1) := by decide +kernel
theorem dd_M_bestIn_5 : decode c_M_bestIn 5 = .ok (.aload_n 0, 1) := by decide +kernel
theorem dd_M_bestIn_6 : decode c_M_bestIn 6 = .ok (.getfield 245, 3) := by decide +kernel
theorem dd_M_bestIn_9 : decode c_M_bestIn 9 = .ok (.if_icmp .ge 43, 3) := by decide +kernel
theorem dd_M_bestIn_12 : decode c_M_bestIn 12 = .ok (.aload_n 0, 1) := by decide +kernel
theorem dd_M_bestIn_13 : decode c_M_bestIn 13 = .ok (.iload_n 3, 1) := by decide +kernel
theorem dd_M_bestIn_14 : decode c_M_bestIn 14 = .ok (.invokevirtual 309, 3) := by decide +kernel
theorem dd_M_bestIn_17 : decode c_M_bestIn 17 = .ok (.ifCond .eq 27, 3) := by decide +kernel
theorem dd_M_bestIn_20 : decode c_M_bestIn 20 = .ok (.iload_n 2, 1) := by decide +kernel
theorem dd_M_bestIn_21 : decode c_M_bestIn 21 = .ok (.iconst (-1), 1) := by decide +kernel
theorem dd_M_bestIn_22 : decode c_M_bestIn 22 = .ok (.if_icmp .eq 18, 3) := by decide +kernel
theorem dd_M_bestIn_25 : decode c_M_bestIn 25 = .ok (.aload_n 0, 1) := by decide +kernel
theorem dd_M_bestIn_26 : decode c_M_bestIn 26 = .ok (.iload_n 1, 1) := by decide +kernel
theorem dd_M_bestIn_27 : decode c_M_bestIn 27 = .ok (.iload_n 3, 1) := by decide +kernel
theorem dd_M_bestIn_28 : decode c_M_bestIn 28 = .ok (.invokevirtual 284, 3) := by decide +kernel
theorem dd_M_bestIn_31 : decode c_M_bestIn 31 = .ok (.aload_n 0, 1) := by decide +kernel
theorem dd_M_bestIn_32 : decode c_M_bestIn 32 = .ok (.iload_n 1, 1) := by decide +kernel
theorem dd_M_bestIn_33 : decode c_M_bestIn 33 = .ok (.iload_n 2, 1) := by decide +kernel
theorem dd_M_bestIn_34 : decode c_M_bestIn 34 = .ok (.invokevirtual 284, 3) := by decide +kernel
theorem dd_M_bestIn_37 : decode c_M_bestIn 37 = .ok (.if_icmp .le 7, 3) := by decide +kernel
theorem dd_M_bestIn_40 : decode c_M_bestIn 40 = .ok (.iload_n 3, 1) := by decide +kernel
theorem dd_M_bestIn_41 : decode c_M_bestIn 41 = .ok (.goto 4, 3) := by decide +kernel
theorem dd_M_bestIn_44 : decode c_M_bestIn 44 = .ok (.iload_n 2, 1) := by decide +kernel
theorem dd_M_bestIn_45 : decode c_M_bestIn 45 = .ok (.istore_n 2, 1) := by decide +kernel
theorem dd_M_bestIn_46 : decode c_M_bestIn 46 = .ok (.iinc 3 1, 3) := by decide +kernel
theorem dd_M_bestIn_49 : decode c_M_bestIn 49 = .ok (.goto (-45), 3) := by decide +kernel
theorem dd_M_bestIn_52 : decode c_M_bestIn 52 = .ok (.iload_n 2, 1) := by decide +kernel
theorem dd_M_bestIn_53 : decode c_M_bestIn 53 = .ok (.ireturn, 1) := by decide +kernel
theorem dd_M_best_0 : decode c_M_best 0 = .ok (.aload_n 0, 1) := by decide +kernel
theorem dd_M_best_1 : decode c_M_best 1 = .ok (.iload_n 1, 1) := by decide +kernel
theorem dd_M_best_2 : decode c_M_best 2 = .ok (.invokevirtual 300, 3) := by decide +kernel
theorem dd_M_best_5 : decode c_M_best 5 = .ok (.ifCond .eq 12, 3) := by decide +kernel
theorem dd_M_best_8 : decode c_M_best 8 = .ok (.iload_n 2, 1) := by decide +kernel
theorem dd_M_best_9 : decode c_M_best 9 = .ok (.iconst 0, 1) := by decide +kernel
theorem dd_M_best_10 : decode c_M_best 10 = .ok (.iconst 1, 1) := by decide +kernel
theorem dd_M_best_11 : decode c_M_best 11 = .ok (.invokestatic 205, 3) := by decide +kernel
theorem dd_M_best_14 : decode c_M_best 14 = .ok (.ifCond .ne 5, 3) := by decide +kernel
theorem dd_M_best_17 : decode c_M_best 17 = .ok (.iconst (-1), 1) := by decide +kernel
theorem dd_M_best_18 : decode c_M_best 18 = .ok (.ireturn, 1) := by decide +kernel
theorem dd_M_best_19 : decode c_M_best 19 = .ok (.aload_n 0, 1) := by decide +kernel
theorem dd_M_best_20 : decode c_M_best 20 = .ok (.iload_n 1, 1) := by decide +kernel
theorem dd_M_best_21 : decode c_M_best 21 = .ok (.invokevirtual 349, 3) := by decide +kernel
theorem dd_M_best_24 : decode c_M_best 24 = .ok (.istore_n 3, 1) := by decide +kernel
theorem dd_M_best_25 : decode c_M_best 25 = .ok (.iload_n 3, 1) := by decide +kernel
theorem dd_M_best_26 : decode c_M_best 26 = .ok (.iconst (-1), 1) := by decide +kernel
theorem dd_M_best_27 : decode c_M_best 27 = .ok (.if_icmp .eq 7, 3) := by decide +kernel
theorem dd_M_best_30 : decode c_M_best 30 = .ok (.iload_n 2, 1) := by decide +kernel
theorem dd_M_best_31 : decode c_M_best 31 = .ok (.ifCond .ne 7, 3) := by decide +kernel
theorem dd_M_best_34 : decode c_M_best 34 = .ok (.iload_n 3, 1) := by decide +kernel
theorem dd_M_best_35 : decode c_M_best 35 = .ok (.goto 9, 3) := by decide +kernel
theorem dd_M_best_38 : decode c_M_best 38 = .ok (.aload_n 0, 1) := by decide +kernel
theorem dd_M_best_39 : decode c_M_best 39 = .ok (.iload_n 1, 1) := by decide +kernel
theorem dd_M_best_40 : decode c_M_best 40 = .ok (.iload_n 3, 1) := by decide +kernel
theorem dd_M_best_41 : decode c_M_best 41 = .ok (.invokevirtual 284, 3) := by decide +kernel
theorem dd_M_best_44 : decode c_M_best 44 = .ok (.ireturn, 1) := by decide +kernel
theorem dd_Plans_weighAll_0 : decode c_Plans_weighAll 0 = .ok (.iconst 0, 1) := by decide +kernel
theorem dd_Plans_weighAll_1 : decode c_Plans_weighAll 1 = .ok (.istore_n 1, 1) := by decide +kernel
theorem dd_Plans_weighAll_2 : decode c_Plans_weighAll 2 = .ok (.iload_n 1, 1) := by decide +kernel
theorem dd_Plans_weighAll_3 : decode c_Plans_weighAll 3 = .ok (.aload_n 0, 1) := by decide +kernel
theorem dd_Plans_weighAll_4 : decode c_Plans_weighAll 4 = .ok (.getfield 24, 3) := by decide +kernel
theorem dd_Plans_weighAll_7 : decode c_Plans_weighAll 7 = .ok (.getfield 63, 3) := by decide +kernel
theorem dd_Plans_weighAll_10 : decode c_Plans_weighAll 10 = .ok (.if_icmp .ge 48, 3) := by decide +kernel
theorem dd_Plans_weighAll_13 : decode c_Plans_weighAll 13 = .ok (.iconst 0, 1) := by decide +kernel
theorem dd_Plans_weighAll_14 : decode c_Plans_weighAll 14 = .ok (.istore_n 2, 1) := by decide +kernel
theorem dd_Plans_weighAll_15 : decode c_Plans_weighAll 15 = .ok (.iload_n 2, 1) := by decide +kernel
theorem dd_Plans_weighAll_16 : decode c_Plans_weighAll 16 = .ok (.aload_n 0, 1) := by decide +kernel
theorem dd_Plans_weighAll_17 : decode c_Plans_weighAll 17 = .ok (.getfield 24, 3) := by decide +kernel
theorem dd_Plans_weighAll_20 : decode c_Plans_weighAll 20 = .ok (.getfield 43, 3) := by decide +kernel
theorem dd_Plans_weighAll_23 : decode c_Plans_weighAll 23 = .ok (.if_icmp .ge 29, 3) := by decide +kernel
theorem dd_Plans_weighAll_26 : decode c_Plans_weighAll 26 = .ok (.aload_n 0, 1) := by decide +kernel
theorem dd_Plans_weighAll_27 : decode c_Plans_weighAll 27 = .ok (.getfield 9, 3) := by decide +kernel
theorem dd_Plans_weighAll_30 : decode c_Plans_weighAll 30 = .ok (.iload_n 1, 1) := by decide +kernel
theorem dd_Plans_weighAll_31 : decode c_Plans_weighAll 31 = .ok (.bipush 6, 2) := by decide +kernel
theorem dd_Plans_weighAll_33 : decode c_Plans_weighAll 33 = .ok (.imul, 1) := by decide +kernel
theorem dd_Plans_weighAll_34 : decode c_Plans_weighAll 34 = .ok (.iload_n 2, 1) := by decide +kernel
theorem dd_Plans_weighAll_35 : decode c_Plans_weighAll 35 = .ok (.iadd, 1) := by decide +kernel
theorem dd_Plans_weighAll_36 : decode c_Plans_weighAll 36 = .ok (.aload_n 0, 1) := by decide +kernel
theorem dd_Plans_weighAll_37 : decode c_Plans_weighAll 37 = .ok (.getfield 32, 3) := by decide +kernel
theorem dd_Plans_weighAll_40 : decode c_Plans_weighAll 40 = .ok (.iload_n 1, 1) := by decide +kernel
theorem dd_Plans_weighAll_41 : decode c_Plans_weighAll 41 = .ok (.iload_n 2, 1) := by decide +kernel
theorem dd_Plans_weighAll_42 : decode c_Plans_weighAll 42 = .ok (.invokevirtual 66, 3) := by decide +kernel
theorem dd_Plans_weighAll_45 : decode c_Plans_weighAll 45 = .ok (.iastore, 1) := by decide +kernel
theorem dd_Plans_weighAll_46 : decode c_Plans_weighAll 46 = .ok (.iinc 2 1, 3) := by decide +kernel
theorem dd_Plans_weighAll_49 : decode c_Plans_weighAll 49 = .ok (.goto (-34), 3) := by decide +kernel
theorem dd_Plans_weighAll_52 : decode c_Plans_weighAll 52 = .ok (.iinc 1 1, 3) := by decide +kernel
theorem dd_Plans_weighAll_55 : decode c_Plans_weighAll 55 = .ok (.goto (-53), 3) := by decide +kernel
theorem dd_Plans_weighAll_58 : decode c_Plans_weighAll 58 = .ok (.return_, 1) := by decide +kernel
theorem dd_Stays_onceMore_0 : decode c_Stays_onceMore 0 = .ok (.aload_n 0, 1) := by decide +kernel
theorem dd_Stays_onceMore_1 : decode c_Stays_onceMore 1 = .ok (.getfield 15, 3) := by decide +kernel
theorem dd_Stays_onceMore_4 : decode c_Stays_onceMore 4 = .ok (.getfield 23, 3) := by decide +kernel
theorem dd_Stays_onceMore_7 : decode c_Stays_onceMore 7 = .ok (.iload_n 1, 1) := by decide +kernel
theorem dd_Stays_onceMore_8 : decode c_Stays_onceMore 8 = .ok (.bipush 6, 2) := by decide +kernel
theorem dd_Stays_onceMore_10 : decode c_Stays_onceMore 10 = .ok (.imul, 1) := by decide +kernel
theorem dd_Stays_onceMore_11 : decode c_Stays_onceMore 11 = .ok (.iload_n 2, 1) := by decide +kernel
theorem dd_Stays_onceMore_12 : decode c_Stays_onceMore 12 = .ok (.iadd, 1) := by decide +kernel
theorem dd_Stays_onceMore_13 : decode c_Stays_onceMore 13 = .ok (.iaload, 1) := by decide +kernel
theorem dd_Stays_onceMore_14 : decode c_Stays_onceMore 14 = .ok (.invokestatic 36, 3) := by decide +kernel
theorem dd_Stays_onceMore_17 : decode c_Stays_onceMore 17 = .ok (.istore_n 3, 1) := by decide +kernel
theorem dd_Stays_onceMore_18 : decode c_Stays_onceMore 18 = .ok (.aload_n 0, 1) := by decide +kernel
theorem dd_Stays_onceMore_19 : decode c_Stays_onceMore 19 = .ok (.iload_n 1, 1) := by decide +kernel
theorem dd_Stays_onceMore_20 : decode c_Stays_onceMore 20 = .ok (.iload_n 2, 1) := by decide +kernel
theorem dd_Stays_onceMore_21 : decode c_Stays_onceMore 21 = .ok (.iload_n 3, 1) := by decide +kernel
theorem dd_Stays_onceMore_22 : decode c_Stays_onceMore 22 = .ok (.aload_n 0, 1) := by decide +kernel
theorem dd_Stays_onceMore_23 : decode c_Stays_onceMore 23 = .ok (.getfield 15, 3) := by decide +kernel
theorem dd_Stays_onceMore_26 : decode c_Stays_onceMore 26 = .ok (.getfield 29, 3) := by decide +kernel
theorem dd_Stays_onceMore_29 : decode c_Stays_onceMore 29 = .ok (.iload_n 2, 1) := by decide +kernel
theorem dd_Stays_onceMore_30 : decode c_Stays_onceMore 30 = .ok (.iaload, 1) := by decide +kernel
theorem dd_Stays_onceMore_31 : decode c_Stays_onceMore 31 = .ok (.invokevirtual 32, 3) := by decide +kernel
theorem dd_Stays_onceMore_34 : decode c_Stays_onceMore 34 = .ok (.ireturn, 1) := by decide +kernel
theorem dd_Plans_digitsOf_0 : decode c_Plans_digitsOf 0 = .ok (.iload_n 0, 1) := by decide +kernel
theorem dd_Plans_digitsOf_1 : decode c_Plans_digitsOf 1 = .ok (.bipush 6, 2) := by decide +kernel
theorem dd_Plans_digitsOf_3 : decode c_Plans_digitsOf 3 = .ok (.idiv, 1) := by decide +kernel
theorem dd_Plans_digitsOf_4 : decode c_Plans_digitsOf 4 = .ok (.bipush 10, 2) := by decide +kernel
theorem dd_Plans_digitsOf_6 : decode c_Plans_digitsOf 6 = .ok (.imul, 1) := by decide +kernel
theorem dd_Plans_digitsOf_7 : decode c_Plans_digitsOf 7 = .ok (.iload_n 0, 1) := by decide +kernel
theorem dd_Plans_digitsOf_8 : decode c_Plans_digitsOf 8 = .ok (.bipush 6, 2) := by decide +kernel
theorem dd_Plans_digitsOf_10 : decode c_Plans_digitsOf 10 = .ok (.irem, 1) := by decide +kernel
theorem dd_Plans_digitsOf_11 : decode c_Plans_digitsOf 11 = .ok (.iadd, 1) := by decide +kernel
theorem dd_Plans_digitsOf_12 : decode c_Plans_digitsOf 12 = .ok (.ireturn, 1) := by decide +kernel
theorem dd_Plans_trySecondsIn_0 : decode c_Plans_trySecondsIn 0 = .ok (.iconst 0, 1) := by decide +kernel
theorem dd_Plans_trySecondsIn_1 : decode c_Plans_trySecondsIn 1 = .ok (.istore_n 3, 1) := by decide +kernel
theorem dd_Plans_trySecondsIn_2 : decode c_Plans_trySecondsIn 2 = .ok (.iload_n 3, 1) := by decide +kernel
theorem dd_Plans_trySecondsIn_3 : decode c_Plans_trySecondsIn 3 = .ok (.aload_n 0, 1) := by decide +kernel
theorem dd_Plans_trySecondsIn_4 : decode c_Plans_trySecondsIn 4 = .ok (.getfield 24, 3) := by decide +kernel
theorem dd_Plans_trySecondsIn_7 : decode c_Plans_trySecondsIn 7 = .ok (.getfield 43, 3) := by decide +kernel
theorem dd_Plans_trySecondsIn_10 : decode c_Plans_trySecondsIn 10 = .ok (.if_icmp .ge 92, 3) := by decide +kernel
theorem dd_Plans_trySecondsIn_13 : decode c_Plans_trySecondsIn 13 = .ok (.aload_n 0, 1) := by decide +kernel
theorem dd_Plans_trySecondsIn_14 : decode c_Plans_trySecondsIn 14 = .ok (.getfield 28, 3) := by decide +kernel
theorem dd_Plans_trySecondsIn_17 : decode c_Plans_trySecondsIn 17 = .ok (.iload_n 3, 1) := by decide +kernel
theorem dd_Plans_trySecondsIn_18 : decode c_Plans_trySecondsIn 18 = .ok (.invokevirtual 48, 3) := by decide +kernel
theorem dd_Plans_trySecondsIn_21 : decode c_Plans_trySecondsIn 21 = .ok (.ifCond .eq 75, 3) := by decide +kernel
theorem dd_Plans_trySecondsIn_24 : decode c_Plans_trySecondsIn 24 = .ok (.iload_n 1, 1) := by decide +kernel
theorem dd_Plans_trySecondsIn_25 : decode c_Plans_trySecondsIn 25 = .ok (.bipush 6, 2) := by decide +kernel
theorem dd_Plans_trySecondsIn_27 : decode c_Plans_trySecondsIn 27 = .ok (.imul, 1) := by decide +kernel
theorem dd_Plans_trySecondsIn_28 : decode c_Plans_trySecondsIn 28 = .ok (.iload_n 3, 1) := by decide +kernel
theorem dd_Plans_trySecondsIn_29 : decode c_Plans_trySecondsIn 29 = .ok (.iadd, 1) := by decide +kernel
theorem dd_Plans_trySecondsIn_30 : decode c_Plans_trySecondsIn 30 = .ok (.istore 4, 2) := by decide +kernel
theorem dd_Plans_trySecondsIn_32 : decode c_Plans_trySecondsIn 32 = .ok (.aload_n 0, 1) := by decide +kernel
theorem dd_Plans_trySecondsIn_33 : decode c_Plans_trySecondsIn 33 = .ok (.getfield 9, 3) := by decide +kernel
theorem dd_Plans_trySecondsIn_36 : decode c_Plans_trySecondsIn 36 = .ok (.iload_n 2, 1) := by decide +kernel
theorem dd_Plans_trySecondsIn_37 : decode c_Plans_trySecondsIn 37 = .ok (.iaload, 1) := by decide +kernel
theorem dd_Plans_trySecondsIn_38 : decode c_Plans_trySecondsIn 38 = .ok (.iload 4, 2) := by decide +kernel
theorem dd_Plans_trySecondsIn_40 : decode c_Plans_trySecondsIn 40 = .ok (.iload_n 2, 1) := by decide +kernel
theorem dd_Plans_trySecondsIn_41 : decode c_Plans_trySecondsIn 41 = .ok (.if_icmp .ne 13, 3) := by decide +kernel
theorem dd_Plans_trySecondsIn_44 : decode c_Plans_trySecondsIn 44 = .ok (.aload_n 0, 1) := by decide +kernel
theorem dd_Plans_trySecondsIn_45 : decode c_Plans_trySecondsIn 45 = .ok (.getfield 15, 3) := by decide +kernel
theorem dd_Plans_trySecondsIn_48 : decode c_Plans_trySecondsIn 48 = .ok (.iload 4, 2) := by decide +kernel
theorem dd_Plans_trySecondsIn_50 : decode c_Plans_trySecondsIn 50 = .ok (.iaload, 1) := by decide +kernel
theorem dd_Plans_trySecondsIn_51 : decode c_Plans_trySecondsIn 51 = .ok (.goto 10, 3) := by decide +kernel
theorem dd_Plans_trySecondsIn_54 : decode c_Plans_trySecondsIn 54 = .ok (.aload_n 0, 1) := by decide +kernel
theorem dd_Plans_trySecondsIn_55 : decode c_Plans_trySecondsIn 55 = .ok (.getfield 9, 3) := by decide +kernel
theorem dd_Plans_trySecondsIn_58 : decode c_Plans_trySecondsIn 58 = .ok (.iload 4, 2) := by decide +kernel
theorem dd_Plans_trySecondsIn_60 : decode c_Plans_trySecondsIn 60 = .ok (.iaload, 1) := by decide +kernel
theorem dd_Plans_trySecondsIn_61 : decode c_Plans_trySecondsIn 61 = .ok (.iadd, 1) := by decide +kernel
theorem dd_Plans_trySecondsIn_62 : decode c_Plans_trySecondsIn 62 = .ok (.istore 5, 2) := by decide +kernel
theorem dd_Plans_trySecondsIn_64 : decode c_Plans_trySecondsIn 64 = .ok (.iload 5, 2) := by decide +kernel
theorem dd_Plans_trySecondsIn_66 : decode c_Plans_trySecondsIn 66 = .ok (.aload_n 0, 1) := by decide +kernel
theorem dd_Plans_trySecondsIn_67 : decode c_Plans_trySecondsIn 67 = .ok (.getfield 72, 3) := by decide +kernel
theorem dd_Plans_trySecondsIn_70 : decode c_Plans_trySecondsIn 70 = .ok (.if_icmp .le 26, 3) := by decide +kernel
theorem dd_Plans_trySecondsIn_73 : decode c_Plans_trySecondsIn 73 = .ok (.aload_n 0, 1) := by decide +kernel
theorem dd_Plans_trySecondsIn_74 : decode c_Plans_trySecondsIn 74 = .ok (.iload 5, 2) := by decide +kernel
theorem dd_Plans_trySecondsIn_76 : decode c_Plans_trySecondsIn 76 = .ok (.putfield 72, 3) := by decide +kernel
theorem dd_Plans_trySecondsIn_79 : decode c_Plans_trySecondsIn 79 = .ok (.aload_n 0, 1) := by decide +kernel
theorem dd_Plans_trySecondsIn_80 : decode c_Plans_trySecondsIn 80 = .ok (.iload_n 2, 1) := by decide +kernel
theorem dd_Plans_trySecondsIn_81 : decode c_Plans_trySecondsIn 81 = .ok (.invokestatic 102, 3) := by decide +kernel
theorem dd_Plans_trySecondsIn_84 : decode c_Plans_trySecondsIn 84 = .ok (.bipush 100, 2) := by decide +kernel
theorem dd_Plans_trySecondsIn_86 : decode c_Plans_trySecondsIn 86 = .ok (.imul, 1) := by decide +kernel
theorem dd_Plans_trySecondsIn_87 : decode c_Plans_trySecondsIn 87 = .ok (.iload 4, 2) := by decide +kernel
theorem dd_Plans_trySecondsIn_89 : decode c_Plans_trySecondsIn 89 = .ok (.invokestatic 102, 3) := by decide +kernel
theorem dd_Plans_trySecondsIn_92 : decode c_Plans_trySecondsIn 92 = .ok (.iadd, 1) := by decide +kernel
theorem dd_Plans_trySecondsIn_93 : decode c_Plans_trySecondsIn 93 = .ok (.putfield 69, 3) := by decide +kernel
theorem dd_Plans_trySecondsIn_96 : decode c_Plans_trySecondsIn 96 = .ok (.iinc 3 1, 3) := by decide +kernel
theorem dd_Plans_trySecondsIn_99 : decode c_Plans_trySecondsIn 99 = .ok (.goto (-97), 3) := by decide +kernel
theorem dd_Plans_trySecondsIn_102 : decode c_Plans_trySecondsIn 102 = .ok (.return_, 1) := by decide +kernel
theorem dd_Plans_trySecondsBehind_0 : decode c_Plans_trySecondsBehind 0 = .ok (.iload_n 1, 1) := by decide +kernel
theorem dd_Plans_trySecondsBehind_1 : decode c_Plans_trySecondsBehind 1 = .ok (.bipush 6, 2) := by decide +kernel
theorem dd_Plans_trySecondsBehind_3 : decode c_Plans_trySecondsBehind 3 = .ok (.imul, 1) := by decide +kernel
theorem dd_Plans_trySecondsBehind_4 : decode c_Plans_trySecondsBehind 4 = .ok (.iload_n 2, 1) := by decide +kernel
theorem dd_Plans_trySecondsBehind_5 : decode c_Plans_trySecondsBehind 5 = .ok (.iadd, 1) := by decide +kernel
theorem dd_Plans_trySecondsBehind_6 : decode c_Plans_trySecondsBehind 6 = .ok (.istore_n 3, 1) := by decide +kernel
theorem dd_Plans_trySecondsBehind_7 : decode c_Plans_trySecondsBehind 7 = .ok (.aload_n 0, 1) := by decide +kernel
theorem dd_Plans_trySecondsBehind_8 : decode c_Plans_trySecondsBehind 8 = .ok (.getfield 28, 3) := by decide +kernel
theorem dd_Plans_trySecondsBehind_11 : decode c_Plans_trySecondsBehind 11 = .ok (.getfield 82, 3) := by decide +kernel
theorem dd_Plans_trySecondsBehind_14 : decode c_Plans_trySecondsBehind 14 = .ok (.aload_n 0, 1) := by decide +kernel
theorem dd_Plans_trySecondsBehind_15 : decode c_Plans_trySecondsBehind 15 = .ok (.getfield 28, 3) := by decide +kernel
theorem dd_Plans_trySecondsBehind_18 : decode c_Plans_trySecondsBehind 18 = .ok (.iload_n 1, 1) := by decide +kernel
theorem dd_Plans_trySecondsBehind_19 : decode c_Plans_trySecondsBehind 19 = .ok (.invokevirtual 78, 3) := by decide +kernel
theorem dd_Plans_trySecondsBehind_22 : decode c_Plans_trySecondsBehind 22 = .ok (.isub, 1) := by decide +kernel
theorem dd_Plans_trySecondsBehind_23 : decode c_Plans_trySecondsBehind 23 = .ok (.aload_n 0, 1) := by decide +kernel
theorem dd_Plans_trySecondsBehind_24 : decode c_Plans_trySecondsBehind 24 = .ok (.getfield 9, 3) := by decide +kernel
theorem dd_Plans_trySecondsBehind_27 : decode c_Plans_trySecondsBehind 27 = .ok (.iload_n 3, 1) := by decide +kernel
theorem dd_Plans_trySecondsBehind_28 : decode c_Plans_trySecondsBehind 28 = .ok (.iaload, 1) := by decide +kernel
theorem dd_Plans_trySecondsBehind_29 : decode c_Plans_trySecondsBehind 29 = .ok (.invokestatic 91, 3) := by decide +kernel
theorem dd_Plans_trySecondsBehind_32 : decode c_Plans_trySecondsBehind 32 = .ok (.istore 4, 2) := by decide +kernel
theorem dd_Plans_trySecondsBehind_34 : decode c_Plans_trySecondsBehind 34 = .ok (.iconst 0, 1) := by decide +kernel
theorem dd_Plans_trySecondsBehind_35 : decode c_Plans_trySecondsBehind 35 = .ok (.istore 5, 2) := by decide +kernel
theorem dd_Plans_trySecondsBehind_37 : decode c_Plans_trySecondsBehind 37 = .ok (.iload 5, 2) := by decide +kernel
theorem dd_Plans_trySecondsBehind_39 : decode c_Plans_trySecondsBehind 39 = .ok (.aload_n 0, 1) := by decide +kernel
theorem dd_Plans_trySecondsBehind_40 : decode c_Plans_trySecondsBehind 40 = .ok (.getfield 24, 3) := by decide +kernel
theorem dd_Plans_trySecondsBehind_43 : decode c_Plans_trySecondsBehind 43 = .ok (.getfield 63, 3) := by decide +kernel
theorem dd_Plans_trySecondsBehind_46 : decode c_Plans_trySecondsBehind 46 = .ok (.if_icmp .ge 28, 3) := by decide +kernel
theorem dd_Plans_trySecondsBehind_49 : decode c_Plans_trySecondsBehind 49 = .ok (.iload 5, 2) := by decide +kernel
theorem dd_Plans_trySecondsBehind_51 : decode c_Plans_trySecondsBehind 51 = .ok (.iload_n 1, 1) := by decide +kernel
theorem dd_Plans_trySecondsBehind_52 : decode c_Plans_trySecondsBehind 52 = .ok (.isub, 1) := by decide +kernel
theorem dd_Plans_trySecondsBehind_53 : decode c_Plans_trySecondsBehind 53 = .ok (.invokestatic 94, 3) := by decide +kernel
theorem dd_Plans_trySecondsBehind_56 : decode c_Plans_trySecondsBehind 56 = .ok (.iload 4, 2) := by decide +kernel
theorem dd_Plans_trySecondsBehind_58 : decode c_Plans_trySecondsBehind 58 = .ok (.if_icmp .gt 10, 3) := by decide +kernel
theorem dd_Plans_trySecondsBehind_61 : decode c_Plans_trySecondsBehind 61 = .ok (.aload_n 0, 1) := by decide +kernel
theorem dd_Plans_trySecondsBehind_62 : decode c_Plans_trySecondsBehind 62 = .ok (.iload 5, 2) := by decide +kernel
theorem dd_Plans_trySecondsBehind_64 : decode c_Plans_trySecondsBehind 64 = .ok (.iload_n 3, 1) := by decide +kernel
theorem dd_Plans_trySecondsBehind_65 : decode c_Plans_trySecondsBehind 65 = .ok (.invokevirtual 99, 3) := by decide +kernel
theorem dd_Plans_trySecondsBehind_68 : decode c_Plans_trySecondsBehind 68 = .ok (.iinc 5 1, 3) := by decide +kernel
theorem dd_Plans_trySecondsBehind_71 : decode c_Plans_trySecondsBehind 71 = .ok (.goto (-34), 3) := by decide +kernel
theorem dd_Plans_trySecondsBehind_74 : decode c_Plans_trySecondsBehind 74 = .ok (.return_, 1) := by decide +kernel
theorem dd_Plans_findTwo_0 : decode c_Plans_findTwo 0 = .ok (.aload_n 0, 1) := by decide +kernel
theorem dd_Plans_findTwo_1 : decode c_Plans_findTwo 1 = .ok (.iconst (-1), 1) := by decide +kernel
theorem dd_Plans_findTwo_2 : decode c_Plans_findTwo 2 = .ok (.putfield 69, 3) := by decide +kernel
theorem dd_Plans_findTwo_5 : decode c_Plans_findTwo 5 = .ok (.aload_n 0, 1) := by decide +kernel
theorem dd_Plans_findTwo_6 : decode c_Plans_findTwo 6 = .ok (.iconst (-1), 1) := by decide +kernel
theorem dd_Plans_findTwo_7 : decode c_Plans_findTwo 7 = .ok (.putfield 72, 3) := by decide +kernel
theorem dd_Plans_findTwo_10 : decode c_Plans_findTwo 10 = .ok (.aload_n 0, 1) := by decide +kernel
theorem dd_Plans_findTwo_11 : decode c_Plans_findTwo 11 = .ok (.invokevirtual 75, 3) := by decide +kernel
theorem dd_Plans_findTwo_14 : decode c_Plans_findTwo 14 = .ok (.iconst 0, 1) := by decide +kernel
theorem dd_Plans_findTwo_15 : decode c_Plans_findTwo 15 = .ok (.istore_n 1, 1) := by decide +kernel
theorem dd_Plans_findTwo_16 : decode c_Plans_findTwo 16 = .ok (.iload_n 1, 1) := by decide +kernel
theorem dd_Plans_findTwo_17 : decode c_Plans_findTwo 17 = .ok (.aload_n 0, 1) := by decide +kernel
theorem dd_Plans_findTwo_18 : decode c_Plans_findTwo 18 = .ok (.getfield 24, 3) := by decide +kernel
theorem dd_Plans_findTwo_21 : decode c_Plans_findTwo 21 = .ok (.getfield 63, 3) := by decide +kernel
theorem dd_Plans_findTwo_24 : decode c_Plans_findTwo 24 = .ok (.if_icmp .ge 83, 3) := by decide +kernel
theorem dd_Plans_findTwo_27 : decode c_Plans_findTwo 27 = .ok (.iconst 0, 1) := by decide +kernel
theorem dd_Plans_findTwo_28 : decode c_Plans_findTwo 28 = .ok (.istore_n 2, 1) := by decide +kernel
theorem dd_Plans_findTwo_29 : decode c_Plans_findTwo 29 = .ok (.iload_n 2, 1) := by decide +kernel
theorem dd_Plans_findTwo_30 : decode c_Plans_findTwo 30 = .ok (.aload_n 0, 1) := by decide +kernel
theorem dd_Plans_findTwo_31 : decode c_Plans_findTwo 31 = .ok (.getfield 24, 3) := by decide +kernel
theorem dd_Plans_findTwo_34 : decode c_Plans_findTwo 34 = .ok (.getfield 43, 3) := by decide +kernel
theorem dd_Plans_findTwo_37 : decode c_Plans_findTwo 37 = .ok (.if_icmp .ge 64, 3) := by decide +kernel
theorem dd_Plans_findTwo_40 : decode c_Plans_findTwo 40 = .ok (.aload_n 0, 1) := by decide +kernel
theorem dd_Plans_findTwo_41 : decode c_Plans_findTwo 41 = .ok (.getfield 28, 3) := by decide +kernel
theorem dd_Plans_findTwo_44 : decode c_Plans_findTwo 44 = .ok (.iload_n 2, 1) := by decide +kernel
theorem dd_Plans_findTwo_45 : decode c_Plans_findTwo 45 = .ok (.invokevirtual 48, 3) := by decide +kernel
theorem dd_Plans_findTwo_48 : decode c_Plans_findTwo 48 = .ok (.ifCond .eq 47, 3) := by decide +kernel
theorem dd_Plans_findTwo_51 : decode c_Plans_findTwo 51 = .ok (.aload_n 0, 1) := by decide +kernel
theorem dd_Plans_findTwo_52 : decode c_Plans_findTwo 52 = .ok (.getfield 28, 3) := by decide +kernel
theorem dd_Plans_findTwo_55 : decode c_Plans_findTwo 55 = .ok (.iload_n 1, 1) := by decide +kernel
theorem dd_Plans_findTwo_56 : decode c_Plans_findTwo 56 = .ok (.invokevirtual 78, 3) := by decide +kernel
theorem dd_Plans_findTwo_59 : decode c_Plans_findTwo 59 = .ok (.aload_n 0, 1) := by decide +kernel
theorem dd_Plans_findTwo_60 : decode c_Plans_findTwo 60 = .ok (.getfield 28, 3) := by decide +kernel
theorem dd_Plans_findTwo_63 : decode c_Plans_findTwo 63 = .ok (.getfield 82, 3) := by decide +kernel
theorem dd_Plans_findTwo_66 : decode c_Plans_findTwo 66 = .ok (.if_icmp .gt 29, 3) := by decide +kernel
theorem dd_Plans_findTwo_69 : decode c_Plans_findTwo 69 = .ok (.aload_n 0, 1) := by decide +kernel
theorem dd_Plans_findTwo_70 : decode c_Plans_findTwo 70 = .ok (.getfield 15, 3) := by decide +kernel
theorem dd_Plans_findTwo_73 : decode c_Plans_findTwo 73 = .ok (.iload_n 1, 1) := by decide +kernel
theorem dd_Plans_findTwo_74 : decode c_Plans_findTwo 74 = .ok (.bipush 6, 2) := by decide +kernel
theorem dd_Plans_findTwo_76 : decode c_Plans_findTwo 76 = .ok (.imul, 1) := by decide +kernel
theorem dd_Plans_findTwo_77 : decode c_Plans_findTwo 77 = .ok (.iload_n 2, 1) := by decide +kernel
theorem dd_Plans_findTwo_78 : decode c_Plans_findTwo 78 = .ok (.iadd, 1) := by decide +kernel
theorem dd_Plans_findTwo_79 : decode c_Plans_findTwo 79 = .ok (.aload_n 0, 1) := by decide +kernel
theorem dd_Plans_findTwo_80 : decode c_Plans_findTwo 80 = .ok (.getfield 32, 3) := by decide +kernel
theorem dd_Plans_findTwo_83 : decode c_Plans_findTwo 83 = .ok (.iload_n 1, 1) := by decide +kernel
theorem dd_Plans_findTwo_84 : decode c_Plans_findTwo 84 = .ok (.iload_n 2, 1) := by decide +kernel
theorem dd_Plans_findTwo_85 : decode c_Plans_findTwo 85 = .ok (.invokevirtual 85, 3) := by decide +kernel
theorem dd_Plans_findTwo_88 : decode c_Plans_findTwo 88 = .ok (.iastore, 1) := by decide +kernel
theorem dd_Plans_findTwo_89 : decode c_Plans_findTwo 89 = .ok (.aload_n 0, 1) := by decide +kernel
theorem dd_Plans_findTwo_90 : decode c_Plans_findTwo 90 = .ok (.iload_n 1, 1) := by decide +kernel
theorem dd_Plans_findTwo_91 : decode c_Plans_findTwo 91 = .ok (.iload_n 2, 1) := by decide +kernel
theorem dd_Plans_findTwo_92 : decode c_Plans_findTwo 92 = .ok (.invokevirtual 87, 3) := by decide +kernel
theorem dd_Plans_findTwo_95 : decode c_Plans_findTwo 95 = .ok (.iinc 2 1, 3) := by decide +kernel
theorem dd_Plans_findTwo_98 : decode c_Plans_findTwo 98 = .ok (.goto (-69), 3) := by decide +kernel
theorem dd_Plans_findTwo_101 : decode c_Plans_findTwo 101 = .ok (.iinc 1 1, 3) := by decide +kernel
theorem dd_Plans_findTwo_104 : decode c_Plans_findTwo 104 = .ok (.goto (-88), 3) := by decide +kernel
theorem dd_Plans_findTwo_107 : decode c_Plans_findTwo 107 = .ok (.return_, 1) := by decide +kernel
theorem dd_W_two_0 : decode c_W_two 0 = .ok (.aload_n 0, 1) := by decide +kernel
theorem dd_W_two_1 : decode c_W_two 1 = .ok (.getfield 42, 3) := by decide +kernel
theorem dd_W_two_4 : decode c_W_two 4 = .ok (.invokevirtual 235, 3) := by decide +kernel
theorem dd_W_two_7 : decode c_W_two 7 = .ok (.ifCond .eq 12, 3) := by decide +kernel
theorem dd_W_two_10 : decode c_W_two 10 = .ok (.iload_n 1, 1) := by decide +kernel
theorem dd_W_two_11 : decode c_W_two 11 = .ok (.ifCond .lt 8, 3) := by decide +kernel
theorem dd_W_two_14 : decode c_W_two 14 = .ok (.iload_n 1, 1) := by decide +kernel
theorem dd_W_two_15 : decode c_W_two 15 = .ok (.iconst 1, 1) := by decide +kernel
theorem dd_W_two_16 : decode c_W_two 16 = .ok (.if_icmp .le 5, 3) := by decide +kernel
theorem dd_W_two_19 : decode c_W_two 19 = .ok (.iconst (-1), 1) := by decide +kernel
theorem dd_W_two_20 : decode c_W_two 20 = .ok (.ireturn, 1) := by decide +kernel
theorem dd_W_two_21 : decode c_W_two 21 = .ok (.aload_n 0, 1) := by decide +kernel
theorem dd_W_two_22 : decode c_W_two 22 = .ok (.getfield 83, 3) := by decide +kernel
theorem dd_W_two_25 : decode c_W_two 25 = .ok (.invokevirtual 287, 3) := by decide +kernel
theorem dd_W_two_28 : decode c_W_two 28 = .ok (.iload_n 1, 1) := by decide +kernel
theorem dd_W_two_29 : decode c_W_two 29 = .ok (.ifCond .ne 13, 3) := by decide +kernel
theorem dd_W_two_32 : decode c_W_two 32 = .ok (.aload_n 0, 1) := by decide +kernel
theorem dd_W_two_33 : decode c_W_two 33 = .ok (.getfield 83, 3) := by decide +kernel
theorem dd_W_two_36 : decode c_W_two 36 = .ok (.getfield 290, 3) := by decide +kernel
theorem dd_W_two_39 : decode c_W_two 39 = .ok (.goto 10, 3) := by decide +kernel
theorem dd_W_two_42 : decode c_W_two 42 = .ok (.aload_n 0, 1) := by decide +kernel
theorem dd_W_two_43 : decode c_W_two 43 = .ok (.getfield 83, 3) := by decide +kernel
theorem dd_W_two_46 : decode c_W_two 46 = .ok (.getfield 293, 3) := by decide +kernel
theorem dd_W_two_49 : decode c_W_two 49 = .ok (.ireturn, 1) := by decide +kernel
theorem dd_M_putAside_0 : decode c_M_putAside 0 = .ok (.iconst 0, 1) := by decide +kernel
theorem dd_M_putAside_1 : decode c_M_putAside 1 = .ok (.istore_n 2, 1) := by decide +kernel
theorem dd_M_putAside_2 : decode c_M_putAside 2 = .ok (.iload_n 2, 1) := by decide +kernel
theorem dd_M_putAside_3 : decode c_M_putAside 3 = .ok (.bipush 48, 2) := by decide +kernel
theorem dd_M_putAside_5 : decode c_M_putAside 5 = .ok (.if_icmp .ge 26, 3) := by decide +kernel
theorem dd_M_putAside_8 : decode c_M_putAside 8 = .ok (.aload_n 0, 1) := by decide +kernel
theorem dd_M_putAside_9 : decode c_M_putAside 9 = .ok (.getfield 74, 3) := by decide +kernel
theorem dd_M_putAside_12 : decode c_M_putAside 12 = .ok (.bipush 48, 2) := by decide +kernel
theorem dd_M_putAside_14 : decode c_M_putAside 14 = .ok (.iload_n 1, 1) := by decide +kernel
theorem dd_M_putAside_15 : decode c_M_putAside 15 = .ok (.imul, 1) := by decide +kernel
theorem dd_M_putAside_16 : decode c_M_putAside 16 = .ok (.iload_n 2, 1) := by decide +kernel
theorem dd_M_putAside_17 : decode c_M_putAside 17 = .ok (.iadd, 1) := by decide +kernel
theorem dd_M_putAside_18 : decode c_M_putAside 18 = .ok (.aload_n 0, 1) := by decide +kernel
theorem dd_M_putAside_19 : decode c_M_putAside 19 = .ok (.getfield 58, 3) := by decide +kernel
theorem dd_M_putAside_22 : decode c_M_putAside 22 = .ok (.iload_n 2, 1) := by decide +kernel
theorem dd_M_putAside_23 : decode c_M_putAside 23 = .ok (.iaload, 1) := by decide +kernel
theorem dd_M_putAside_24 : decode c_M_putAside 24 = .ok (.iastore, 1) := by decide +kernel
theorem dd_M_putAside_25 : decode c_M_putAside 25 = .ok (.iinc 2 1, 3) := by decide +kernel
theorem dd_M_putAside_28 : decode c_M_putAside 28 = .ok (.goto (-26), 3) := by decide +kernel
theorem dd_M_putAside_31 : decode c_M_putAside 31 = .ok (.return_, 1) := by decide +kernel
theorem dd_M_takeBack_0 : decode c_M_takeBack 0 = .ok (.iconst 0, 1) := by decide +kernel
theorem dd_M_takeBack_1 : decode c_M_takeBack 1 = .ok (.istore_n 2, 1) := by decide +kernel
theorem dd_M_takeBack_2 : decode c_M_takeBack 2 = .ok (.iload_n 2, 1) := by decide +kernel
theorem dd_M_takeBack_3 : decode c_M_takeBack 3 = .ok (.bipush 48, 2) := by decide +kernel
theorem dd_M_takeBack_5 : decode c_M_takeBack 5 = .ok (.if_icmp .ge 26, 3) := by decide +kernel
theorem dd_M_takeBack_8 : decode c_M_takeBack 8 = .ok (.aload_n 0, 1) := by decide +kernel
theorem dd_M_takeBack_9 : decode c_M_takeBack 9 = .ok (.getfield 58, 3) := by decide +kernel
theorem dd_M_takeBack_12 : decode c_M_takeBack 12 = .ok (.iload_n 2, 1) := by decide +kernel
theorem dd_M_takeBack_13 : decode c_M_takeBack 13 = .ok (.aload_n 0, 1) := by decide +kernel
theorem dd_M_takeBack_14 : decode c_M_takeBack 14 = .ok (.getfield 74, 3) := by decide +kernel
theorem dd_M_takeBack_17 : decode c_M_takeBack 17 = .ok (.bipush 48, 2) := by decide +kernel
theorem dd_M_takeBack_19 : decode c_M_takeBack 19 = .ok (.iload_n 1, 1) := by decide +kernel
theorem dd_M_takeBack_20 : decode c_M_takeBack 20 = .ok (.imul, 1) := by decide +kernel
theorem dd_M_takeBack_21 : decode c_M_takeBack 21 = .ok (.iload_n 2, 1) := by decide +kernel
theorem dd_M_takeBack_22 : decode c_M_takeBack 22 = .ok (.iadd, 1) := by decide +kernel
theorem dd_M_takeBack_23 : decode c_M_takeBack 23 = .ok (.iaload, 1) := by decide +kernel
theorem dd_M_takeBack_24 : decode c_M_takeBack 24 = .ok (.iastore, 1) := by decide +kernel
theorem dd_M_takeBack_25 : decode c_M_takeBack 25 = .ok (.iinc 2 1, 3) := by decide +kernel
theorem dd_M_takeBack_28 : decode c_M_takeBack 28 = .ok (.goto (-26), 3) := by decide +kernel
theorem dd_M_takeBack_31 : decode c_M_takeBack 31 = .ok (.return_, 1) := by decide +kernel
theorem dd_M_tryTwo_0 : decode c_M_tryTwo 0 = .ok (.iload_n 1, 1) := by decide +kernel
theorem dd_M_tryTwo_1 : decode c_M_tryTwo 1 = .ok (.iconst 2, 1) := by decide +kernel
theorem dd_M_tryTwo_2 : decode c_M_tryTwo 2 = .ok (.if_icmp .ne 30, 3) := by decide +kernel
theorem dd_M_tryTwo_5 : decode c_M_tryTwo 5 = .ok (.aload_n 0, 1) := by decide +kernel
theorem dd_M_tryTwo_6 : decode c_M_tryTwo 6 = .ok (.getfield 352, 3) := by decide +kernel
theorem dd_M_tryTwo_9 : decode c_M_tryTwo 9 = .ok (.iconst (-1), 1) := by decide +kernel
theorem dd_M_tryTwo_10 : decode c_M_tryTwo 10 = .ok (.if_icmp .eq 11, 3) := by decide +kernel
theorem dd_M_tryTwo_13 : decode c_M_tryTwo 13 = .ok (.iload_n 3, 1) := by decide +kernel
theorem dd_M_tryTwo_14 : decode c_M_tryTwo 14 = .ok (.aload_n 0, 1) := by decide +kernel
theorem dd_M_tryTwo_15 : decode c_M_tryTwo 15 = .ok (.getfield 355, 3) := by decide +kernel
theorem dd_M_tryTwo_18 : decode c_M_tryTwo 18 = .ok (.if_icmp .le 13, 3) := by decide +kernel
theorem dd_M_tryTwo_21 : decode c_M_tryTwo 21 = .ok (.aload_n 0, 1) := by decide +kernel
theorem dd_M_tryTwo_22 : decode c_M_tryTwo 22 = .ok (.iload_n 2, 1) := by decide +kernel
theorem dd_M_tryTwo_23 : decode c_M_tryTwo 23 = .ok (.putfield 352, 3) := by decide +kernel
theorem dd_M_tryTwo_26 : decode c_M_tryTwo 26 = .ok (.aload_n 0, 1) := by decide +kernel
theorem dd_M_tryTwo_27 : decode c_M_tryTwo 27 = .ok (.iload_n 3, 1) := by decide +kernel
theorem dd_M_tryTwo_28 : decode c_M_tryTwo 28 = .ok (.putfield 355, 3) := by decide +kernel
theorem dd_M_tryTwo_31 : decode c_M_tryTwo 31 = .ok (.return_, 1) := by decide +kernel
theorem dd_M_tryTwo_32 : decode c_M_tryTwo 32 = .ok (.aload_n 0, 1) := by decide +kernel
theorem dd_M_tryTwo_33 : decode c_M_tryTwo 33 = .ok (.iload_n 1, 1) := by decide +kernel
theorem dd_M_tryTwo_34 : decode c_M_tryTwo 34 = .ok (.invokevirtual 358, 3) := by decide +kernel
theorem dd_M_tryTwo_37 : decode c_M_tryTwo 37 = .ok (.iconst 0, 1) := by decide +kernel
theorem dd_M_tryTwo_38 : decode c_M_tryTwo 38 = .ok (.istore 4, 2) := by decide +kernel
theorem dd_M_tryTwo_40 : decode c_M_tryTwo 40 = .ok (.iload 4, 2) := by decide +kernel
theorem dd_M_tryTwo_42 : decode c_M_tryTwo 42 = .ok (.aload_n 0, 1) := by decide +kernel
theorem dd_M_tryTwo_43 : decode c_M_tryTwo 43 = .ok (.getfield 242, 3) := by decide +kernel
theorem dd_M_tryTwo_46 : decode c_M_tryTwo 46 = .ok (.aload_n 0, 1) := by decide +kernel
theorem dd_M_tryTwo_47 : decode c_M_tryTwo 47 = .ok (.getfield 245, 3) := by decide +kernel
theorem dd_M_tryTwo_50 : decode c_M_tryTwo 50 = .ok (.imul, 1) := by decide +kernel
theorem dd_M_tryTwo_51 : decode c_M_tryTwo 51 = .ok (.if_icmp .ge 95, 3) := by decide +kernel
theorem dd_M_tryTwo_54 : decode c_M_tryTwo 54 = .ok (.iload 4, 2) := by decide +kernel
theorem dd_M_tryTwo_56 : decode c_M_tryTwo 56 = .ok (.aload_n 0, 1) := by decide +kernel
theorem dd_M_tryTwo_57 : decode c_M_tryTwo 57 = .ok (.getfield 245, 3) := by decide +kernel
theorem dd_M_tryTwo_60 : decode c_M_tryTwo 60 = .ok (.idiv, 1) := by decide +kernel
theorem dd_M_tryTwo_61 : decode c_M_tryTwo 61 = .ok (.istore 5, 2) := by decide +kernel
theorem dd_M_tryTwo_63 : decode c_M_tryTwo 63 = .ok (.iload 4, 2) := by decide +kernel
theorem dd_M_tryTwo_65 : decode c_M_tryTwo 65 = .ok (.aload_n 0, 1) := by decide +kernel
theorem dd_M_tryTwo_66 : decode c_M_tryTwo 66 = .ok (.getfield 245, 3) := by decide +kernel
theorem dd_M_tryTwo_69 : decode c_M_tryTwo 69 = .ok (.irem, 1) := by decide +kernel
theorem dd_M_tryTwo_70 : decode c_M_tryTwo 70 = .ok (.istore 6, 2) := by decide +kernel
theorem dd_M_tryTwo_72 : decode c_M_tryTwo 72 = .ok (.aload_n 0, 1) := by decide +kernel
theorem dd_M_tryTwo_73 : decode c_M_tryTwo 73 = .ok (.iload 6, 2) := by decide +kernel
theorem dd_M_tryTwo_75 : decode c_M_tryTwo 75 = .ok (.invokevirtual 309, 3) := by decide +kernel
theorem dd_M_tryTwo_78 : decode c_M_tryTwo 78 = .ok (.ifCond .eq 62, 3) := by decide +kernel
theorem dd_M_tryTwo_81 : decode c_M_tryTwo 81 = .ok (.aload_n 0, 1) := by decide +kernel
theorem dd_M_tryTwo_82 : decode c_M_tryTwo 82 = .ok (.getfield 58, 3) := by decide +kernel
theorem dd_M_tryTwo_85 : decode c_M_tryTwo 85 = .ok (.bipush 44, 2) := by decide +kernel
theorem dd_M_tryTwo_87 : decode c_M_tryTwo 87 = .ok (.iaload, 1) := by decide +kernel
theorem dd_M_tryTwo_88 : decode c_M_tryTwo 88 = .ok (.aload_n 0, 1) := by decide +kernel
theorem dd_M_tryTwo_89 : decode c_M_tryTwo 89 = .ok (.iload 5, 2) := by decide +kernel
theorem dd_M_tryTwo_91 : decode c_M_tryTwo 91 = .ok (.invokevirtual 290, 3) := by decide +kernel
theorem dd_M_tryTwo_94 : decode c_M_tryTwo 94 = .ok (.if_icmp .lt 46, 3) := by decide +kernel
theorem dd_M_tryTwo_97 : decode c_M_tryTwo 97 = .ok (.aload_n 0, 1) := by decide +kernel
theorem dd_M_tryTwo_98 : decode c_M_tryTwo 98 = .ok (.iload 5, 2) := by decide +kernel
theorem dd_M_tryTwo_100 : decode c_M_tryTwo 100 = .ok (.invokevirtual 327, 3) := by decide +kernel
theorem dd_M_tryTwo_103 : decode c_M_tryTwo 103 = .ok (.aload_n 0, 1) := by decide +kernel
theorem dd_M_tryTwo_104 : decode c_M_tryTwo 104 = .ok (.iload 6, 2) := by decide +kernel
theorem dd_M_tryTwo_106 : decode c_M_tryTwo 106 = .ok (.invokevirtual 293, 3) := by decide +kernel
theorem dd_M_tryTwo_109 : decode c_M_tryTwo 109 = .ok (.istore 7, 2) := by decide +kernel
theorem dd_M_tryTwo_111 : decode c_M_tryTwo 111 = .ok (.aload_n 0, 1) := by decide +kernel
theorem dd_M_tryTwo_112 : decode c_M_tryTwo 112 = .ok (.iload_n 1, 1) := by decide +kernel
theorem dd_M_tryTwo_113 : decode c_M_tryTwo 113 = .ok (.iconst 1, 1) := by decide +kernel
theorem dd_M_tryTwo_114 : decode c_M_tryTwo 114 = .ok (.iadd, 1) := by decide +kernel
theorem dd_M_tryTwo_115 : decode c_M_tryTwo 115 = .ok (.bipush 100, 2) := by decide +kernel
theorem dd_M_tryTwo_117 : decode c_M_tryTwo 117 = .ok (.iload_n 2, 1) := by decide +kernel
theorem dd_M_tryTwo_118 : decode c_M_tryTwo 118 = .ok (.imul, 1) := by decide +kernel
theorem dd_M_tryTwo_119 : decode c_M_tryTwo 119 = .ok (.bipush 10, 2) := by decide +kernel
theorem dd_M_tryTwo_121 : decode c_M_tryTwo 121 = .ok (.iload 5, 2) := by decide +kernel
theorem dd_M_tryTwo_123 : decode c_M_tryTwo 123 = .ok (.imul, 1) := by decide +kernel
theorem dd_M_tryTwo_124 : decode c_M_tryTwo 124 = .ok (.iadd, 1) := by decide +kernel
theorem dd_M_tryTwo_125 : decode c_M_tryTwo 125 = .ok (.iload 6, 2) := by decide +kernel
theorem dd_M_tryTwo_127 : decode c_M_tryTwo 127 = .ok (.iadd, 1) := by decide +kernel
theorem dd_M_tryTwo_128 : decode c_M_tryTwo 128 = .ok (.iload_n 3, 1) := by decide +kernel
theorem dd_M_tryTwo_129 : decode c_M_tryTwo 129 = .ok (.iload 7, 2) := by decide +kernel
theorem dd_M_tryTwo_131 : decode c_M_tryTwo 131 = .ok (.iadd, 1) := by decide +kernel
theorem dd_M_tryTwo_132 : decode c_M_tryTwo 132 = .ok (.invokevirtual 361, 3) := by decide +kernel
theorem dd_M_tryTwo_135 : decode c_M_tryTwo 135 = .ok (.aload_n 0, 1) := by decide +kernel
theorem dd_M_tryTwo_136 : decode c_M_tryTwo 136 = .ok (.iload_n 1, 1) := by decide +kernel
theorem dd_M_tryTwo_137 : decode c_M_tryTwo 137 = .ok (.invokevirtual 364, 3) := by decide +kernel
theorem dd_M_tryTwo_140 : decode c_M_tryTwo 140 = .ok (.iinc 4 1, 3) := by decide +kernel
theorem dd_M_tryTwo_143 : decode c_M_tryTwo 143 = .ok (.goto (-103), 3) := by decide +kernel
theorem dd_M_tryTwo_146 : decode c_M_tryTwo 146 = .ok (.return_, 1) := by decide +kernel
theorem dd_M_two_0 : decode c_M_two 0 = .ok (.aload_n 0, 1) := by decide +kernel
theorem dd_M_two_1 : decode c_M_two 1 = .ok (.getfield 242, 3) := by decide +kernel
theorem dd_M_two_4 : decode c_M_two 4 = .ok (.ifCond .eq 12, 3) := by decide +kernel
theorem dd_M_two_7 : decode c_M_two 7 = .ok (.iload_n 1, 1) := by decide +kernel
theorem dd_M_two_8 : decode c_M_two 8 = .ok (.iconst 0, 1) := by decide +kernel
theorem dd_M_two_9 : decode c_M_two 9 = .ok (.iconst 1, 1) := by decide +kernel
theorem dd_M_two_10 : decode c_M_two 10 = .ok (.invokestatic 205, 3) := by decide +kernel
theorem dd_M_two_13 : decode c_M_two 13 = .ok (.ifCond .ne 5, 3) := by decide +kernel
theorem dd_M_two_16 : decode c_M_two 16 = .ok (.iconst (-1), 1) := by decide +kernel
theorem dd_M_two_17 : decode c_M_two 17 = .ok (.ireturn, 1) := by decide +kernel
theorem dd_M_two_18 : decode c_M_two 18 = .ok (.aload_n 0, 1) := by decide +kernel
theorem dd_M_two_19 : decode c_M_two 19 = .ok (.iconst (-1), 1) := by decide +kernel
theorem dd_M_two_20 : decode c_M_two 20 = .ok (.putfield 352, 3) := by decide +kernel
theorem dd_M_two_23 : decode c_M_two 23 = .ok (.aload_n 0, 1) := by decide +kernel
theorem dd_M_two_24 : decode c_M_two 24 = .ok (.iconst 0, 1) := by decide +kernel
theorem dd_M_two_25 : decode c_M_two 25 = .ok (.iconst 0, 1) := by decide +kernel
theorem dd_M_two_26 : decode c_M_two 26 = .ok (.iconst 0, 1) := by decide +kernel
theorem dd_M_two_27 : decode c_M_two 27 = .ok (.invokevirtual 361, 3) := by decide +kernel
theorem dd_M_two_30 : decode c_M_two 30 = .ok (.aload_n 0, 1) := by decide +kernel
theorem dd_M_two_31 : decode c_M_two 31 = .ok (.getfield 352, 3) := by decide +kernel
theorem dd_M_two_34 : decode c_M_two 34 = .ok (.iconst (-1), 1) := by decide +kernel
theorem dd_M_two_35 : decode c_M_two 35 = .ok (.if_icmp .eq 7, 3) := by decide +kernel
theorem dd_M_two_38 : decode c_M_two 38 = .ok (.iload_n 1, 1) := by decide +kernel
theorem dd_M_two_39 : decode c_M_two 39 = .ok (.ifCond .ne 10, 3) := by decide +kernel
theorem dd_M_two_42 : decode c_M_two 42 = .ok (.aload_n 0, 1) := by decide +kernel
theorem dd_M_two_43 : decode c_M_two 43 = .ok (.getfield 352, 3) := by decide +kernel
theorem dd_M_two_46 : decode c_M_two 46 = .ok (.goto 7, 3) := by decide +kernel
theorem dd_M_two_49 : decode c_M_two 49 = .ok (.aload_n 0, 1) := by decide +kernel
theorem dd_M_two_50 : decode c_M_two 50 = .ok (.getfield 355, 3) := by decide +kernel
theorem dd_M_two_53 : decode c_M_two 53 = .ok (.ireturn, 1) := by decide +kernel
theorem dd_Plans_with_0 : decode c_Plans_with 0 = .ok (.iload_n 1, 1) := by decide +kernel
theorem dd_Plans_with_1 : decode c_Plans_with 1 = .ok (.bipush 9, 2) := by decide +kernel
theorem dd_Plans_with_3 : decode c_Plans_with 3 = .ok (.if_icmp .ne 7, 3) := by decide +kernel
theorem dd_Plans_with_6 : decode c_Plans_with 6 = .ok (.iload_n 0, 1) := by decide +kernel
theorem dd_Plans_with_7 : decode c_Plans_with 7 = .ok (.goto 8, 3) := by decide +kernel
theorem dd_Plans_with_10 : decode c_Plans_with 10 = .ok (.iload_n 0, 1) := by decide +kernel
theorem dd_Plans_with_11 : decode c_Plans_with 11 = .ok (.iconst 1, 1) := by decide +kernel
theorem dd_Plans_with_12 : decode c_Plans_with 12 = .ok (.iload_n 1, 1) := by decide +kernel
theorem dd_Plans_with_13 : decode c_Plans_with 13 = .ok (.ishl, 1) := by decide +kernel
theorem dd_Plans_with_14 : decode c_Plans_with 14 = .ok (.ior, 1) := by decide +kernel
theorem dd_Plans_with_15 : decode c_Plans_with 15 = .ok (.ireturn, 1) := by decide +kernel
theorem dd_Plans_nightsBy_0 : decode c_Plans_nightsBy 0 = .ok (.iload_n 3, 1) := by decide +kernel
theorem dd_Plans_nightsBy_1 : decode c_Plans_nightsBy 1 = .ok (.bipush 9, 2) := by decide +kernel
theorem dd_Plans_nightsBy_3 : decode c_Plans_nightsBy 3 = .ok (.if_icmp .ne 7, 3) := by decide +kernel
theorem dd_Plans_nightsBy_6 : decode c_Plans_nightsBy 6 = .ok (.iconst 0, 1) := by decide +kernel
theorem dd_Plans_nightsBy_7 : decode c_Plans_nightsBy 7 = .ok (.goto 14, 3) := by decide +kernel
theorem dd_Plans_nightsBy_10 : decode c_Plans_nightsBy 10 = .ok (.aload_n 0, 1) := by decide +kernel
theorem dd_Plans_nightsBy_11 : decode c_Plans_nightsBy 11 = .ok (.getfield 9, 3) := by decide +kernel
theorem dd_Plans_nightsBy_14 : decode c_Plans_nightsBy 14 = .ok (.iload_n 1, 1) := by decide +kernel
theorem dd_Plans_nightsBy_15 : decode c_Plans_nightsBy 15 = .ok (.bipush 6, 2) := by decide +kernel
theorem dd_Plans_nightsBy_17 : decode c_Plans_nightsBy 17 = .ok (.imul, 1) := by decide +kernel
theorem dd_Plans_nightsBy_18 : decode c_Plans_nightsBy 18 = .ok (.iload_n 3, 1) := by decide +kernel
theorem dd_Plans_nightsBy_19 : decode c_Plans_nightsBy 19 = .ok (.iadd, 1) := by decide +kernel
theorem dd_Plans_nightsBy_20 : decode c_Plans_nightsBy 20 = .ok (.iaload, 1) := by decide +kernel
theorem dd_Plans_nightsBy_21 : decode c_Plans_nightsBy 21 = .ok (.istore 4, 2) := by decide +kernel
theorem dd_Plans_nightsBy_23 : decode c_Plans_nightsBy 23 = .ok (.iload 4, 2) := by decide +kernel
theorem dd_Plans_nightsBy_25 : decode c_Plans_nightsBy 25 = .ok (.aload_n 0, 1) := by decide +kernel
theorem dd_Plans_nightsBy_26 : decode c_Plans_nightsBy 26 = .ok (.getfield 21, 3) := by decide +kernel
theorem dd_Plans_nightsBy_29 : decode c_Plans_nightsBy 29 = .ok (.iload_n 1, 1) := by decide +kernel
theorem dd_Plans_nightsBy_30 : decode c_Plans_nightsBy 30 = .ok (.iconst 1, 1) := by decide +kernel
theorem dd_Plans_nightsBy_31 : decode c_Plans_nightsBy 31 = .ok (.iadd, 1) := by decide +kernel
theorem dd_Plans_nightsBy_32 : decode c_Plans_nightsBy 32 = .ok (.bipush 64, 2) := by decide +kernel
theorem dd_Plans_nightsBy_34 : decode c_Plans_nightsBy 34 = .ok (.imul, 1) := by decide +kernel
theorem dd_Plans_nightsBy_35 : decode c_Plans_nightsBy 35 = .ok (.iload_n 2, 1) := by decide +kernel
theorem dd_Plans_nightsBy_36 : decode c_Plans_nightsBy 36 = .ok (.iload_n 3, 1) := by decide +kernel
theorem dd_Plans_nightsBy_37 : decode c_Plans_nightsBy 37 = .ok (.invokestatic 122, 3) := by decide +kernel
theorem dd_Plans_nightsBy_40 : decode c_Plans_nightsBy 40 = .ok (.iadd, 1) := by decide +kernel
theorem dd_Plans_nightsBy_41 : decode c_Plans_nightsBy 41 = .ok (.iaload, 1) := by decide +kernel
theorem dd_Plans_nightsBy_42 : decode c_Plans_nightsBy 42 = .ok (.iadd, 1) := by decide +kernel
theorem dd_Plans_nightsBy_43 : decode c_Plans_nightsBy 43 = .ok (.ireturn, 1) := by decide +kernel
theorem dd_Plans_placeFor_0 : decode c_Plans_placeFor 0 = .ok (.bipush 9, 2) := by decide +kernel
theorem dd_Plans_placeFor_2 : decode c_Plans_placeFor 2 = .ok (.istore_n 3, 1) := by decide +kernel
theorem dd_Plans_placeFor_3 : decode c_Plans_placeFor 3 = .ok (.iconst (-1), 1) := by decide +kernel
theorem dd_Plans_placeFor_4 : decode c_Plans_placeFor 4 = .ok (.istore 4, 2) := by decide +kernel
theorem dd_Plans_placeFor_6 : decode c_Plans_placeFor 6 = .ok (.iconst 0, 1) := by decide +kernel
theorem dd_Plans_placeFor_7 : decode c_Plans_placeFor 7 = .ok (.istore 5, 2) := by decide +kernel
theorem dd_Plans_placeFor_9 : decode c_Plans_placeFor 9 = .ok (.iload 5, 2) := by decide +kernel
theorem dd_Plans_placeFor_11 : decode c_Plans_placeFor 11 = .ok (.aload_n 0, 1) := by decide +kernel
theorem dd_Plans_placeFor_12 : decode c_Plans_placeFor 12 = .ok (.getfield 24, 3) := by decide +kernel
theorem dd_Plans_placeFor_15 : decode c_Plans_placeFor 15 = .ok (.getfield 43, 3) := by decide +kernel
theorem dd_Plans_placeFor_18 : decode c_Plans_placeFor 18 = .ok (.if_icmp .ge 54, 3) := by decide +kernel
theorem dd_Plans_placeFor_21 : decode c_Plans_placeFor 21 = .ok (.aload_n 0, 1) := by decide +kernel
theorem dd_Plans_placeFor_22 : decode c_Plans_placeFor 22 = .ok (.getfield 28, 3) := by decide +kernel
theorem dd_Plans_placeFor_25 : decode c_Plans_placeFor 25 = .ok (.iload 5, 2) := by decide +kernel
theorem dd_Plans_placeFor_27 : decode c_Plans_placeFor 27 = .ok (.invokevirtual 48, 3) := by decide +kernel
theorem dd_Plans_placeFor_30 : decode c_Plans_placeFor 30 = .ok (.ifCond .eq 36, 3) := by decide +kernel
theorem dd_Plans_placeFor_33 : decode c_Plans_placeFor 33 = .ok (.iload_n 2, 1) := by decide +kernel
theorem dd_Plans_placeFor_34 : decode c_Plans_placeFor 34 = .ok (.iload 5, 2) := by decide +kernel
theorem dd_Plans_placeFor_36 : decode c_Plans_placeFor 36 = .ok (.ishr, 1) := by decide +kernel
theorem dd_Plans_placeFor_37 : decode c_Plans_placeFor 37 = .ok (.iconst 1, 1) := by decide +kernel
theorem dd_Plans_placeFor_38 : decode c_Plans_placeFor 38 = .ok (.iand, 1) := by decide +kernel
theorem dd_Plans_placeFor_39 : decode c_Plans_placeFor 39 = .ok (.ifCond .ne 27, 3) := by decide +kernel
theorem dd_Plans_placeFor_42 : decode c_Plans_placeFor 42 = .ok (.aload_n 0, 1) := by decide +kernel
theorem dd_Plans_placeFor_43 : decode c_Plans_placeFor 43 = .ok (.iload_n 1, 1) := by decide +kernel
theorem dd_Plans_placeFor_44 : decode c_Plans_placeFor 44 = .ok (.iload_n 2, 1) := by decide +kernel
theorem dd_Plans_placeFor_45 : decode c_Plans_placeFor 45 = .ok (.iload 5, 2) := by decide +kernel
theorem dd_Plans_placeFor_47 : decode c_Plans_placeFor 47 = .ok (.invokevirtual 118, 3) := by decide +kernel
theorem dd_Plans_placeFor_50 : decode c_Plans_placeFor 50 = .ok (.istore 6, 2) := by decide +kernel
theorem dd_Plans_placeFor_52 : decode c_Plans_placeFor 52 = .ok (.iload 6, 2) := by decide +kernel
theorem dd_Plans_placeFor_54 : decode c_Plans_placeFor 54 = .ok (.iload 4, 2) := by decide +kernel
theorem dd_Plans_placeFor_56 : decode c_Plans_placeFor 56 = .ok (.if_icmp .le 10, 3) := by decide +kernel
theorem dd_Plans_placeFor_59 : decode c_Plans_placeFor 59 = .ok (.iload 6, 2) := by decide +kernel
theorem dd_Plans_placeFor_61 : decode c_Plans_placeFor 61 = .ok (.istore 4, 2) := by decide +kernel
theorem dd_Plans_placeFor_63 : decode c_Plans_placeFor 63 = .ok (.iload 5, 2) := by decide +kernel
theorem dd_Plans_placeFor_65 : decode c_Plans_placeFor 65 = .ok (.istore_n 3, 1) := by decide +kernel
theorem dd_Plans_placeFor_66 : decode c_Plans_placeFor 66 = .ok (.iinc 5 1, 3) := by decide +kernel
theorem dd_Plans_placeFor_69 : decode c_Plans_placeFor 69 = .ok (.goto (-60), 3) := by decide +kernel
theorem dd_Plans_placeFor_72 : decode c_Plans_placeFor 72 = .ok (.aload_n 0, 1) := by decide +kernel
theorem dd_Plans_placeFor_73 : decode c_Plans_placeFor 73 = .ok (.iload_n 1, 1) := by decide +kernel
theorem dd_Plans_placeFor_74 : decode c_Plans_placeFor 74 = .ok (.iload_n 2, 1) := by decide +kernel
theorem dd_Plans_placeFor_75 : decode c_Plans_placeFor 75 = .ok (.bipush 9, 2) := by decide +kernel
theorem dd_Plans_placeFor_77 : decode c_Plans_placeFor 77 = .ok (.invokevirtual 118, 3) := by decide +kernel
theorem dd_Plans_placeFor_80 : decode c_Plans_placeFor 80 = .ok (.iload 4, 2) := by decide +kernel
theorem dd_Plans_placeFor_82 : decode c_Plans_placeFor 82 = .ok (.if_icmp .le 8, 3) := by decide +kernel
theorem dd_Plans_placeFor_85 : decode c_Plans_placeFor 85 = .ok (.bipush 9, 2) := by decide +kernel
theorem dd_Plans_placeFor_87 : decode c_Plans_placeFor 87 = .ok (.goto 4, 3) := by decide +kernel
theorem dd_Plans_placeFor_90 : decode c_Plans_placeFor 90 = .ok (.iload_n 3, 1) := by decide +kernel
theorem dd_Plans_placeFor_91 : decode c_Plans_placeFor 91 = .ok (.ireturn, 1) := by decide +kernel
theorem dd_Plans_findPlaces_0 : decode c_Plans_findPlaces 0 = .ok (.aload_n 0, 1) := by decide +kernel
theorem dd_Plans_findPlaces_1 : decode c_Plans_findPlaces 1 = .ok (.invokevirtual 75, 3) := by decide +kernel
theorem dd_Plans_findPlaces_4 : decode c_Plans_findPlaces 4 = .ok (.aload_n 0, 1) := by decide +kernel
theorem dd_Plans_findPlaces_5 : decode c_Plans_findPlaces 5 = .ok (.getfield 21, 3) := by decide +kernel
theorem dd_Plans_findPlaces_8 : decode c_Plans_findPlaces 8 = .ok (.iconst 0, 1) := by decide +kernel
theorem dd_Plans_findPlaces_9 : decode c_Plans_findPlaces 9 = .ok (.invokestatic 105, 3) := by decide +kernel
theorem dd_Plans_findPlaces_12 : decode c_Plans_findPlaces 12 = .ok (.aload_n 0, 1) := by decide +kernel
theorem dd_Plans_findPlaces_13 : decode c_Plans_findPlaces 13 = .ok (.getfield 24, 3) := by decide +kernel
theorem dd_Plans_findPlaces_16 : decode c_Plans_findPlaces 16 = .ok (.getfield 63, 3) := by decide +kernel
theorem dd_Plans_findPlaces_19 : decode c_Plans_findPlaces 19 = .ok (.iconst 1, 1) := by decide +kernel
theorem dd_Plans_findPlaces_20 : decode c_Plans_findPlaces 20 = .ok (.isub, 1) := by decide +kernel
theorem dd_Plans_findPlaces_21 : decode c_Plans_findPlaces 21 = .ok (.istore_n 1, 1) := by decide +kernel
theorem dd_Plans_findPlaces_22 : decode c_Plans_findPlaces 22 = .ok (.iload_n 1, 1) := by decide +kernel
theorem dd_Plans_findPlaces_23 : decode c_Plans_findPlaces 23 = .ok (.ifCond .lt 51, 3) := by decide +kernel
theorem dd_Plans_findPlaces_26 : decode c_Plans_findPlaces 26 = .ok (.iconst 0, 1) := by decide +kernel
theorem dd_Plans_findPlaces_27 : decode c_Plans_findPlaces 27 = .ok (.istore_n 2, 1) := by decide +kernel
theorem dd_Plans_findPlaces_28 : decode c_Plans_findPlaces 28 = .ok (.iload_n 2, 1) := by decide +kernel
theorem dd_Plans_findPlaces_29 : decode c_Plans_findPlaces 29 = .ok (.aload_n 0, 1) := by decide +kernel
theorem dd_Plans_findPlaces_30 : decode c_Plans_findPlaces 30 = .ok (.getfield 24, 3) := by decide +kernel
theorem dd_Plans_findPlaces_33 : decode c_Plans_findPlaces 33 = .ok (.invokevirtual 111, 3) := by decide +kernel
theorem dd_Plans_findPlaces_36 : decode c_Plans_findPlaces 36 = .ok (.if_icmp .gt 32, 3) := by decide +kernel
theorem dd_Plans_findPlaces_39 : decode c_Plans_findPlaces 39 = .ok (.aload_n 0, 1) := by decide +kernel
theorem dd_Plans_findPlaces_40 : decode c_Plans_findPlaces 40 = .ok (.getfield 21, 3) := by decide +kernel
theorem dd_Plans_findPlaces_43 : decode c_Plans_findPlaces 43 = .ok (.iload_n 1, 1) := by decide +kernel
theorem dd_Plans_findPlaces_44 : decode c_Plans_findPlaces 44 = .ok (.bipush 64, 2) := by decide +kernel
theorem dd_Plans_findPlaces_46 : decode c_Plans_findPlaces 46 = .ok (.imul, 1) := by decide +kernel
theorem dd_Plans_findPlaces_47 : decode c_Plans_findPlaces 47 = .ok (.iload_n 2, 1) := by decide +kernel
theorem dd_Plans_findPlaces_48 : decode c_Plans_findPlaces 48 = .ok (.iadd, 1) := by decide +kernel
theorem dd_Plans_findPlaces_49 : decode c_Plans_findPlaces 49 = .ok (.aload_n 0, 1) := by decide +kernel
theorem dd_Plans_findPlaces_50 : decode c_Plans_findPlaces 50 = .ok (.iload_n 1, 1) := by decide +kernel
theorem dd_Plans_findPlaces_51 : decode c_Plans_findPlaces 51 = .ok (.iload_n 2, 1) := by decide +kernel
theorem dd_Plans_findPlaces_52 : decode c_Plans_findPlaces 52 = .ok (.aload_n 0, 1) := by decide +kernel
theorem dd_Plans_findPlaces_53 : decode c_Plans_findPlaces 53 = .ok (.iload_n 1, 1) := by decide +kernel
theorem dd_Plans_findPlaces_54 : decode c_Plans_findPlaces 54 = .ok (.iload_n 2, 1) := by decide +kernel
theorem dd_Plans_findPlaces_55 : decode c_Plans_findPlaces 55 = .ok (.invokevirtual 115, 3) := by decide +kernel
theorem dd_Plans_findPlaces_58 : decode c_Plans_findPlaces 58 = .ok (.invokevirtual 118, 3) := by decide +kernel
theorem dd_Plans_findPlaces_61 : decode c_Plans_findPlaces 61 = .ok (.iastore, 1) := by decide +kernel
theorem dd_Plans_findPlaces_62 : decode c_Plans_findPlaces 62 = .ok (.iinc 2 1, 3) := by decide +kernel
theorem dd_Plans_findPlaces_65 : decode c_Plans_findPlaces 65 = .ok (.goto (-37), 3) := by decide +kernel
theorem dd_Plans_findPlaces_68 : decode c_Plans_findPlaces 68 = .ok (.iinc 1 (-1), 3) := by decide +kernel
theorem dd_Plans_findPlaces_71 : decode c_Plans_findPlaces 71 = .ok (.goto (-49), 3) := by decide +kernel
theorem dd_Plans_findPlaces_74 : decode c_Plans_findPlaces 74 = .ok (.aload_n 0, 1) := by decide +kernel
theorem dd_Plans_findPlaces_75 : decode c_Plans_findPlaces 75 = .ok (.aload_n 0, 1) := by decide +kernel
theorem dd_Plans_findPlaces_76 : decode c_Plans_findPlaces 76 = .ok (.getfield 21, 3) := by decide +kernel
theorem dd_Plans_findPlaces_79 : decode c_Plans_findPlaces 79 = .ok (.iconst 0, 1) := by decide +kernel
theorem dd_Plans_findPlaces_80 : decode c_Plans_findPlaces 80 = .ok (.iaload, 1) := by decide +kernel
theorem dd_Plans_findPlaces_81 : decode c_Plans_findPlaces 81 = .ok (.putfield 72, 3) := by decide +kernel
theorem dd_Plans_findPlaces_84 : decode c_Plans_findPlaces 84 = .ok (.aload_n 0, 1) := by decide +kernel
theorem dd_Plans_findPlaces_85 : decode c_Plans_findPlaces 85 = .ok (.iconst 0, 1) := by decide +kernel
theorem dd_Plans_findPlaces_86 : decode c_Plans_findPlaces 86 = .ok (.putfield 69, 3) := by decide +kernel
theorem dd_Plans_findPlaces_89 : decode c_Plans_findPlaces 89 = .ok (.iconst 0, 1) := by decide +kernel
theorem dd_Plans_findPlaces_90 : decode c_Plans_findPlaces 90 = .ok (.istore_n 1, 1) := by decide +kernel
theorem dd_Plans_findPlaces_91 : decode c_Plans_findPlaces 91 = .ok (.iconst 0, 1) := by decide +kernel
theorem dd_Plans_findPlaces_92 : decode c_Plans_findPlaces 92 = .ok (.istore_n 2, 1) := by decide +kernel
theorem dd_Plans_findPlaces_93 : decode c_Plans_findPlaces 93 = .ok (.iload_n 2, 1) := by decide +kernel
theorem dd_Plans_findPlaces_94 : decode c_Plans_findPlaces 94 = .ok (.aload_n 0, 1) := by decide +kernel
theorem dd_Plans_findPlaces_95 : decode c_Plans_findPlaces 95 = .ok (.getfield 24, 3) := by decide +kernel
theorem dd_Plans_findPlaces_98 : decode c_Plans_findPlaces 98 = .ok (.getfield 63, 3) := by decide +kernel
theorem dd_Plans_findPlaces_101 : decode c_Plans_findPlaces 101 = .ok (.if_icmp .ge 35, 3) := by decide +kernel
theorem dd_Plans_findPlaces_104 : decode c_Plans_findPlaces 104 = .ok (.aload_n 0, 1) := by decide +kernel
theorem dd_Plans_findPlaces_105 : decode c_Plans_findPlaces 105 = .ok (.iload_n 2, 1) := by decide +kernel
theorem dd_Plans_findPlaces_106 : decode c_Plans_findPlaces 106 = .ok (.iload_n 1, 1) := by decide +kernel
theorem dd_Plans_findPlaces_107 : decode c_Plans_findPlaces 107 = .ok (.invokevirtual 115, 3) := by decide +kernel
theorem dd_Plans_findPlaces_110 : decode c_Plans_findPlaces 110 = .ok (.istore_n 3, 1) := by decide +kernel
theorem dd_Plans_findPlaces_111 : decode c_Plans_findPlaces 111 = .ok (.aload_n 0, 1) := by decide +kernel
theorem dd_Plans_findPlaces_112 : decode c_Plans_findPlaces 112 = .ok (.aload_n 0, 1) := by decide +kernel
theorem dd_Plans_findPlaces_113 : decode c_Plans_findPlaces 113 = .ok (.getfield 69, 3) := by decide +kernel
theorem dd_Plans_findPlaces_116 : decode c_Plans_findPlaces 116 = .ok (.bipush 10, 2) := by decide +kernel
theorem dd_Plans_findPlaces_118 : decode c_Plans_findPlaces 118 = .ok (.imul, 1) := by decide +kernel
theorem dd_Plans_findPlaces_119 : decode c_Plans_findPlaces 119 = .ok (.iload_n 3, 1) := by decide +kernel
theorem dd_Plans_findPlaces_120 : decode c_Plans_findPlaces 120 = .ok (.iadd, 1) := by decide +kernel
theorem dd_Plans_findPlaces_121 : decode c_Plans_findPlaces 121 = .ok (.putfield 69, 3) := by decide +kernel
theorem dd_Plans_findPlaces_124 : decode c_Plans_findPlaces 124 = .ok (.iload_n 1, 1) := by decide +kernel
theorem dd_Plans_findPlaces_125 : decode c_Plans_findPlaces 125 = .ok (.iload_n 3, 1) := by decide +kernel
theorem dd_Plans_findPlaces_126 : decode c_Plans_findPlaces 126 = .ok (.invokestatic 122, 3) := by decide +kernel
theorem dd_Plans_findPlaces_129 : decode c_Plans_findPlaces 129 = .ok (.istore_n 1, 1) := by decide +kernel
theorem dd_Plans_findPlaces_130 : decode c_Plans_findPlaces 130 = .ok (.iinc 2 1, 3) := by decide +kernel
theorem dd_Plans_findPlaces_133 : decode c_Plans_findPlaces 133 = .ok (.goto (-40), 3) := by decide +kernel
theorem dd_Plans_findPlaces_136 : decode c_Plans_findPlaces 136 = .ok (.return_, 1) := by decide +kernel
theorem dd_W_places_0 : decode c_W_places 0 = .ok (.aload_n 0, 1) := by decide +kernel
theorem dd_W_places_1 : decode c_W_places 1 = .ok (.getfield 42, 3) := by decide +kernel
theorem dd_W_places_4 : decode c_W_places 4 = .ok (.invokevirtual 235, 3) := by decide +kernel
theorem dd_W_places_7 : decode c_W_places 7 = .ok (.ifCond .eq 12, 3) := by decide +kernel
theorem dd_W_places_10 : decode c_W_places 10 = .ok (.iload_n 1, 1) := by decide +kernel
theorem dd_W_places_11 : decode c_W_places 11 = .ok (.ifCond .lt 8, 3) := by decide +kernel
theorem dd_W_places_14 : decode c_W_places 14 = .ok (.iload_n 1, 1) := by decide +kernel
theorem dd_W_places_15 : decode c_W_places 15 = .ok (.iconst 1, 1) := by decide +kernel
theorem dd_W_places_16 : decode c_W_places 16 = .ok (.if_icmp .le 5, 3) := by decide +kernel
theorem dd_W_places_19 : decode c_W_places 19 = .ok (.iconst (-1), 1) := by decide +kernel
theorem dd_W_places_20 : decode c_W_places 20 = .ok (.ireturn, 1) := by decide +kernel
theorem dd_W_places_21 : decode c_W_places 21 = .ok (.aload_n 0, 1) := by decide +kernel
theorem dd_W_places_22 : decode c_W_places 22 = .ok (.getfield 83, 3) := by decide +kernel
theorem dd_W_places_25 : decode c_W_places 25 = .ok (.invokevirtual 296, 3) := by decide +kernel
theorem dd_W_places_28 : decode c_W_places 28 = .ok (.iload_n 1, 1) := by decide +kernel
theorem dd_W_places_29 : decode c_W_places 29 = .ok (.ifCond .ne 13, 3) := by decide +kernel
theorem dd_W_places_32 : decode c_W_places 32 = .ok (.aload_n 0, 1) := by decide +kernel
theorem dd_W_places_33 : decode c_W_places 33 = .ok (.getfield 83, 3) := by decide +kernel
theorem dd_W_places_36 : decode c_W_places 36 = .ok (.getfield 290, 3) := by decide +kernel
theorem dd_W_places_39 : decode c_W_places 39 = .ok (.goto 10, 3) := by decide +kernel
theorem dd_W_places_42 : decode c_W_places 42 = .ok (.aload_n 0, 1) := by decide +kernel
theorem dd_W_places_43 : decode c_W_places 43 = .ok (.getfield 83, 3) := by decide +kernel
theorem dd_W_places_46 : decode c_W_places 46 = .ok (.getfield 293, 3) := by decide +kernel
theorem dd_W_places_49 : decode c_W_places 49 = .ok (.ireturn, 1) := by decide +kernel
theorem dd_M_tryPlaces_0 : decode c_M_tryPlaces 0 = .ok (.iload_n 1, 1) := by decide +kernel
theorem dd_M_tryPlaces_1 : decode c_M_tryPlaces 1 = .ok (.aload_n 0, 1) := by decide +kernel
theorem dd_M_tryPlaces_2 : decode c_M_tryPlaces 2 = .ok (.getfield 242, 3) := by decide +kernel
theorem dd_M_tryPlaces_5 : decode c_M_tryPlaces 5 = .ok (.if_icmp .ne 32, 3) := by decide +kernel
theorem dd_M_tryPlaces_8 : decode c_M_tryPlaces 8 = .ok (.aload_n 0, 1) := by decide +kernel
theorem dd_M_tryPlaces_9 : decode c_M_tryPlaces 9 = .ok (.getfield 352, 3) := by decide +kernel
theorem dd_M_tryPlaces_12 : decode c_M_tryPlaces 12 = .ok (.iconst (-1), 1) := by decide +kernel
theorem dd_M_tryPlaces_13 : decode c_M_tryPlaces 13 = .ok (.if_icmp .eq 12, 3) := by decide +kernel
theorem dd_M_tryPlaces_16 : decode c_M_tryPlaces 16 = .ok (.iload 4, 2) := by decide +kernel
theorem dd_M_tryPlaces_18 : decode c_M_tryPlaces 18 = .ok (.aload_n 0, 1) := by decide +kernel
theorem dd_M_tryPlaces_19 : decode c_M_tryPlaces 19 = .ok (.getfield 355, 3) := by decide +kernel
theorem dd_M_tryPlaces_22 : decode c_M_tryPlaces 22 = .ok (.if_icmp .le 14, 3) := by decide +kernel
theorem dd_M_tryPlaces_25 : decode c_M_tryPlaces 25 = .ok (.aload_n 0, 1) := by decide +kernel
theorem dd_M_tryPlaces_26 : decode c_M_tryPlaces 26 = .ok (.iload_n 3, 1) := by decide +kernel
theorem dd_M_tryPlaces_27 : decode c_M_tryPlaces 27 = .ok (.putfield 352, 3) := by decide +kernel
theorem dd_M_tryPlaces_30 : decode c_M_tryPlaces 30 = .ok (.aload_n 0, 1) := by decide +kernel
theorem dd_M_tryPlaces_31 : decode c_M_tryPlaces 31 = .ok (.iload 4, 2) := by decide +kernel
theorem dd_M_tryPlaces_33 : decode c_M_tryPlaces 33 = .ok (.putfield 355, 3) := by decide +kernel
theorem dd_M_tryPlaces_36 : decode c_M_tryPlaces 36 = .ok (.return_, 1) := by decide +kernel
theorem dd_M_tryPlaces_37 : decode c_M_tryPlaces 37 = .ok (.iconst 0, 1) := by decide +kernel
theorem dd_M_tryPlaces_38 : decode c_M_tryPlaces 38 = .ok (.istore 5, 2) := by decide +kernel
theorem dd_M_tryPlaces_40 : decode c_M_tryPlaces 40 = .ok (.iload 5, 2) := by decide +kernel
theorem dd_M_tryPlaces_42 : decode c_M_tryPlaces 42 = .ok (.aload_n 0, 1) := by decide +kernel
theorem dd_M_tryPlaces_43 : decode c_M_tryPlaces 43 = .ok (.getfield 245, 3) := by decide +kernel
theorem dd_M_tryPlaces_46 : decode c_M_tryPlaces 46 = .ok (.if_icmp .ge 50, 3) := by decide +kernel
theorem dd_M_tryPlaces_49 : decode c_M_tryPlaces 49 = .ok (.iload_n 2, 1) := by decide +kernel
theorem dd_M_tryPlaces_50 : decode c_M_tryPlaces 50 = .ok (.iload 5, 2) := by decide +kernel
theorem dd_M_tryPlaces_52 : decode c_M_tryPlaces 52 = .ok (.invokestatic 216, 3) := by decide +kernel
theorem dd_M_tryPlaces_55 : decode c_M_tryPlaces 55 = .ok (.ifCond .eq 35, 3) := by decide +kernel
theorem dd_M_tryPlaces_58 : decode c_M_tryPlaces 58 = .ok (.aload_n 0, 1) := by decide +kernel
theorem dd_M_tryPlaces_59 : decode c_M_tryPlaces 59 = .ok (.iload_n 1, 1) := by decide +kernel
theorem dd_M_tryPlaces_60 : decode c_M_tryPlaces 60 = .ok (.iconst 1, 1) := by decide +kernel
theorem dd_M_tryPlaces_61 : decode c_M_tryPlaces 61 = .ok (.iadd, 1) := by decide +kernel
theorem dd_M_tryPlaces_62 : decode c_M_tryPlaces 62 = .ok (.iload_n 2, 1) := by decide +kernel
theorem dd_M_tryPlaces_63 : decode c_M_tryPlaces 63 = .ok (.iconst 1, 1) := by decide +kernel
theorem dd_M_tryPlaces_64 : decode c_M_tryPlaces 64 = .ok (.iload 5, 2) := by decide +kernel
theorem dd_M_tryPlaces_66 : decode c_M_tryPlaces 66 = .ok (.ishl, 1) := by decide +kernel
theorem dd_M_tryPlaces_67 : decode c_M_tryPlaces 67 = .ok (.iconst (-1), 1) := by decide +kernel
theorem dd_M_tryPlaces_68 : decode c_M_tryPlaces 68 = .ok (.ixor, 1) := by decide +kernel
theorem dd_M_tryPlaces_69 : decode c_M_tryPlaces 69 = .ok (.iand, 1) := by decide +kernel
theorem dd_M_tryPlaces_70 : decode c_M_tryPlaces 70 = .ok (.bipush 10, 2) := by decide +kernel
theorem dd_M_tryPlaces_72 : decode c_M_tryPlaces 72 = .ok (.iload_n 3, 1) := by decide +kernel
theorem dd_M_tryPlaces_73 : decode c_M_tryPlaces 73 = .ok (.imul, 1) := by decide +kernel
theorem dd_M_tryPlaces_74 : decode c_M_tryPlaces 74 = .ok (.iload 5, 2) := by decide +kernel
theorem dd_M_tryPlaces_76 : decode c_M_tryPlaces 76 = .ok (.iadd, 1) := by decide +kernel
theorem dd_M_tryPlaces_77 : decode c_M_tryPlaces 77 = .ok (.iload 4, 2) := by decide +kernel
theorem dd_M_tryPlaces_79 : decode c_M_tryPlaces 79 = .ok (.aload_n 0, 1) := by decide +kernel
theorem dd_M_tryPlaces_80 : decode c_M_tryPlaces 80 = .ok (.iload_n 1, 1) := by decide +kernel
theorem dd_M_tryPlaces_81 : decode c_M_tryPlaces 81 = .ok (.iload 5, 2) := by decide +kernel
theorem dd_M_tryPlaces_83 : decode c_M_tryPlaces 83 = .ok (.invokevirtual 284, 3) := by decide +kernel
theorem dd_M_tryPlaces_86 : decode c_M_tryPlaces 86 = .ok (.iadd, 1) := by decide +kernel
theorem dd_M_tryPlaces_87 : decode c_M_tryPlaces 87 = .ok (.invokevirtual 367, 3) := by decide +kernel
theorem dd_M_tryPlaces_90 : decode c_M_tryPlaces 90 = .ok (.iinc 5 1, 3) := by decide +kernel
theorem dd_M_tryPlaces_93 : decode c_M_tryPlaces 93 = .ok (.goto (-53), 3) := by decide +kernel
theorem dd_M_tryPlaces_96 : decode c_M_tryPlaces 96 = .ok (.aload_n 0, 1) := by decide +kernel
theorem dd_M_tryPlaces_97 : decode c_M_tryPlaces 97 = .ok (.iload_n 1, 1) := by decide +kernel
theorem dd_M_tryPlaces_98 : decode c_M_tryPlaces 98 = .ok (.iconst 1, 1) := by decide +kernel
theorem dd_M_tryPlaces_99 : decode c_M_tryPlaces 99 = .ok (.iadd, 1) := by decide +kernel
theorem dd_M_tryPlaces_100 : decode c_M_tryPlaces 100 = .ok (.iload_n 2, 1) := by decide +kernel
theorem dd_M_tryPlaces_101 : decode c_M_tryPlaces 101 = .ok (.bipush 10, 2) := by decide +kernel
theorem dd_M_tryPlaces_103 : decode c_M_tryPlaces 103 = .ok (.iload_n 3, 1) := by decide +kernel
theorem dd_M_tryPlaces_104 : decode c_M_tryPlaces 104 = .ok (.imul, 1) := by decide +kernel
theorem dd_M_tryPlaces_105 : decode c_M_tryPlaces 105 = .ok (.bipush 9, 2) := by decide +kernel
theorem dd_M_tryPlaces_107 : decode c_M_tryPlaces 107 = .ok (.iadd, 1) := by decide +kernel
theorem dd_M_tryPlaces_108 : decode c_M_tryPlaces 108 = .ok (.iload 4, 2) := by decide +kernel
theorem dd_M_tryPlaces_110 : decode c_M_tryPlaces 110 = .ok (.invokevirtual 367, 3) := by decide +kernel
theorem dd_M_tryPlaces_113 : decode c_M_tryPlaces 113 = .ok (.return_, 1) := by decide +kernel
theorem dd_M_places_0 : decode c_M_places 0 = .ok (.aload_n 0, 1) := by decide +kernel
theorem dd_M_places_1 : decode c_M_places 1 = .ok (.getfield 242, 3) := by decide +kernel
theorem dd_M_places_4 : decode c_M_places 4 = .ok (.ifCond .eq 12, 3) := by decide +kernel
theorem dd_M_places_7 : decode c_M_places 7 = .ok (.iload_n 1, 1) := by decide +kernel
theorem dd_M_places_8 : decode c_M_places 8 = .ok (.iconst 0, 1) := by decide +kernel
theorem dd_M_places_9 : decode c_M_places 9 = .ok (.iconst 1, 1) := by decide +kernel
theorem dd_M_places_10 : decode c_M_places 10 = .ok (.invokestatic 205, 3) := by decide +kernel
theorem dd_M_places_13 : decode c_M_places 13 = .ok (.ifCond .ne 5, 3) := by decide +kernel
theorem dd_M_places_16 : decode c_M_places 16 = .ok (.iconst (-1), 1) := by decide +kernel
theorem dd_M_places_17 : decode c_M_places 17 = .ok (.ireturn, 1) := by decide +kernel
theorem dd_M_places_18 : decode c_M_places 18 = .ok (.aload_n 0, 1) := by decide +kernel
theorem dd_M_places_19 : decode c_M_places 19 = .ok (.iconst (-1), 1) := by decide +kernel
theorem dd_M_places_20 : decode c_M_places 20 = .ok (.putfield 352, 3) := by decide +kernel
theorem dd_M_places_23 : decode c_M_places 23 = .ok (.aload_n 0, 1) := by decide +kernel
theorem dd_M_places_24 : decode c_M_places 24 = .ok (.iconst 0, 1) := by decide +kernel
theorem dd_M_places_25 : decode c_M_places 25 = .ok (.aload_n 0, 1) := by decide +kernel
theorem dd_M_places_26 : decode c_M_places 26 = .ok (.getfield 58, 3) := by decide +kernel
theorem dd_M_places_29 : decode c_M_places 29 = .ok (.bipush 43, 2) := by decide +kernel
theorem dd_M_places_31 : decode c_M_places 31 = .ok (.iaload, 1) := by decide +kernel
theorem dd_M_places_32 : decode c_M_places 32 = .ok (.iconst 0, 1) := by decide +kernel
theorem dd_M_places_33 : decode c_M_places 33 = .ok (.iconst 0, 1) := by decide +kernel
theorem dd_M_places_34 : decode c_M_places 34 = .ok (.invokevirtual 367, 3) := by decide +kernel
theorem dd_M_places_37 : decode c_M_places 37 = .ok (.iload_n 1, 1) := by decide +kernel
theorem dd_M_places_38 : decode c_M_places 38 = .ok (.ifCond .ne 10, 3) := by decide +kernel
theorem dd_M_places_41 : decode c_M_places 41 = .ok (.aload_n 0, 1) := by decide +kernel
theorem dd_M_places_42 : decode c_M_places 42 = .ok (.getfield 352, 3) := by decide +kernel
theorem dd_M_places_45 : decode c_M_places 45 = .ok (.goto 7, 3) := by decide +kernel
theorem dd_M_places_48 : decode c_M_places 48 = .ok (.aload_n 0, 1) := by decide +kernel
theorem dd_M_places_49 : decode c_M_places 49 = .ok (.getfield 355, 3) := by decide +kernel
theorem dd_M_places_52 : decode c_M_places 52 = .ok (.ireturn, 1) := by decide +kernel
theorem dd_Plans_serves_0 : decode c_Plans_serves 0 = .ok (.iconst 0, 1) := by decide +kernel
theorem dd_Plans_serves_1 : decode c_Plans_serves 1 = .ok (.istore 4, 2) := by decide +kernel
theorem dd_Plans_serves_3 : decode c_Plans_serves 3 = .ok (.iload 4, 2) := by decide +kernel
theorem dd_Plans_serves_5 : decode c_Plans_serves 5 = .ok (.aload_n 0, 1) := by decide +kernel
theorem dd_Plans_serves_6 : decode c_Plans_serves 6 = .ok (.getfield 24, 3) := by decide +kernel
theorem dd_Plans_serves_9 : decode c_Plans_serves 9 = .ok (.getfield 43, 3) := by decide +kernel
theorem dd_Plans_serves_12 : decode c_Plans_serves 12 = .ok (.if_icmp .ge 36, 3) := by decide +kernel
theorem dd_Plans_serves_15 : decode c_Plans_serves 15 = .ok (.iload_n 1, 1) := by decide +kernel
theorem dd_Plans_serves_16 : decode c_Plans_serves 16 = .ok (.iload 4, 2) := by decide +kernel
theorem dd_Plans_serves_18 : decode c_Plans_serves 18 = .ok (.ishr, 1) := by decide +kernel
theorem dd_Plans_serves_19 : decode c_Plans_serves 19 = .ok (.iconst 1, 1) := by decide +kernel
theorem dd_Plans_serves_20 : decode c_Plans_serves 20 = .ok (.iand, 1) := by decide +kernel
theorem dd_Plans_serves_21 : decode c_Plans_serves 21 = .ok (.ifCond .eq 21, 3) := by decide +kernel
theorem dd_Plans_serves_24 : decode c_Plans_serves 24 = .ok (.aload_n 0, 1) := by decide +kernel
theorem dd_Plans_serves_25 : decode c_Plans_serves 25 = .ok (.getfield 9, 3) := by decide +kernel
theorem dd_Plans_serves_28 : decode c_Plans_serves 28 = .ok (.iload_n 2, 1) := by decide +kernel
theorem dd_Plans_serves_29 : decode c_Plans_serves 29 = .ok (.bipush 6, 2) := by decide +kernel
theorem dd_Plans_serves_31 : decode c_Plans_serves 31 = .ok (.imul, 1) := by decide +kernel
theorem dd_Plans_serves_32 : decode c_Plans_serves 32 = .ok (.iload 4, 2) := by decide +kernel
theorem dd_Plans_serves_34 : decode c_Plans_serves 34 = .ok (.iadd, 1) := by decide +kernel
theorem dd_Plans_serves_35 : decode c_Plans_serves 35 = .ok (.iaload, 1) := by decide +kernel
theorem dd_Plans_serves_36 : decode c_Plans_serves 36 = .ok (.iload_n 3, 1) := by decide +kernel
theorem dd_Plans_serves_37 : decode c_Plans_serves 37 = .ok (.if_icmp .lt 5, 3) := by decide +kernel
theorem dd_Plans_serves_40 : decode c_Plans_serves 40 = .ok (.iconst 1, 1) := by decide +kernel
theorem dd_Plans_serves_41 : decode c_Plans_serves 41 = .ok (.ireturn, 1) := by decide +kernel
theorem dd_Plans_serves_42 : decode c_Plans_serves 42 = .ok (.iinc 4 1, 3) := by decide +kernel
theorem dd_Plans_serves_45 : decode c_Plans_serves 45 = .ok (.goto (-42), 3) := by decide +kernel
theorem dd_Plans_serves_48 : decode c_Plans_serves 48 = .ok (.iconst 0, 1) := by decide +kernel
theorem dd_Plans_serves_49 : decode c_Plans_serves 49 = .ok (.ireturn, 1) := by decide +kernel
theorem dd_Plans_servesAll_0 : decode c_Plans_servesAll 0 = .ok (.iconst 0, 1) := by decide +kernel
theorem dd_Plans_servesAll_1 : decode c_Plans_servesAll 1 = .ok (.istore_n 3, 1) := by decide +kernel
theorem dd_Plans_servesAll_2 : decode c_Plans_servesAll 2 = .ok (.iload_n 3, 1) := by decide +kernel
theorem dd_Plans_servesAll_3 : decode c_Plans_servesAll 3 = .ok (.aload_n 0, 1) := by decide +kernel
theorem dd_Plans_servesAll_4 : decode c_Plans_servesAll 4 = .ok (.getfield 24, 3) := by decide +kernel
theorem dd_Plans_servesAll_7 : decode c_Plans_servesAll 7 = .ok (.getfield 63, 3) := by decide +kernel
theorem dd_Plans_servesAll_10 : decode c_Plans_servesAll 10 = .ok (.if_icmp .ge 21, 3) := by decide +kernel
theorem dd_Plans_servesAll_13 : decode c_Plans_servesAll 13 = .ok (.aload_n 0, 1) := by decide +kernel
theorem dd_Plans_servesAll_14 : decode c_Plans_servesAll 14 = .ok (.iload_n 1, 1) := by decide +kernel
theorem dd_Plans_servesAll_15 : decode c_Plans_servesAll 15 = .ok (.iload_n 3, 1) := by decide +kernel
theorem dd_Plans_servesAll_16 : decode c_Plans_servesAll 16 = .ok (.iload_n 2, 1) := by decide +kernel
theorem dd_Plans_servesAll_17 : decode c_Plans_servesAll 17 = .ok (.invokevirtual 134, 3) := by decide +kernel
theorem dd_Plans_servesAll_20 : decode c_Plans_servesAll 20 = .ok (.ifCond .ne 5, 3) := by decide +kernel
theorem dd_Plans_servesAll_23 : decode c_Plans_servesAll 23 = .ok (.iconst 0, 1) := by decide +kernel
theorem dd_Plans_servesAll_24 : decode c_Plans_servesAll 24 = .ok (.ireturn, 1) := by decide +kernel
theorem dd_Plans_servesAll_25 : decode c_Plans_servesAll 25 = .ok (.iinc 3 1, 3) := by decide +kernel
theorem dd_Plans_servesAll_28 : decode c_Plans_servesAll 28 = .ok (.goto (-26), 3) := by decide +kernel
theorem dd_Plans_servesAll_31 : decode c_Plans_servesAll 31 = .ok (.iconst 1, 1) := by decide +kernel
theorem dd_Plans_servesAll_32 : decode c_Plans_servesAll 32 = .ok (.ireturn, 1) := by decide +kernel
theorem dd_Plans_fewestFor_0 : decode c_Plans_fewestFor 0 = .ok (.aload_n 0, 1) := by decide +kernel
theorem dd_Plans_fewestFor_1 : decode c_Plans_fewestFor 1 = .ok (.invokevirtual 75, 3) := by decide +kernel
theorem dd_Plans_fewestFor_4 : decode c_Plans_fewestFor 4 = .ok (.iconst (-1), 1) := by decide +kernel
theorem dd_Plans_fewestFor_5 : decode c_Plans_fewestFor 5 = .ok (.istore_n 2, 1) := by decide +kernel
theorem dd_Plans_fewestFor_6 : decode c_Plans_fewestFor 6 = .ok (.bipush 7, 2) := by decide +kernel
theorem dd_Plans_fewestFor_8 : decode c_Plans_fewestFor 8 = .ok (.istore_n 3, 1) := by decide +kernel
theorem dd_Plans_fewestFor_9 : decode c_Plans_fewestFor 9 = .ok (.iconst 1, 1) := by decide +kernel
theorem dd_Plans_fewestFor_10 : decode c_Plans_fewestFor 10 = .ok (.istore 4, 2) := by decide +kernel
theorem dd_Plans_fewestFor_12 : decode c_Plans_fewestFor 12 = .ok (.iload 4, 2) := by decide +kernel
theorem dd_Plans_fewestFor_14 : decode c_Plans_fewestFor 14 = .ok (.aload_n 0, 1) := by decide +kernel
theorem dd_Plans_fewestFor_15 : decode c_Plans_fewestFor 15 = .ok (.getfield 24, 3) := by decide +kernel
theorem dd_Plans_fewestFor_18 : decode c_Plans_fewestFor 18 = .ok (.invokevirtual 111, 3) := by decide +kernel
theorem dd_Plans_fewestFor_21 : decode c_Plans_fewestFor 21 = .ok (.if_icmp .gt 38, 3) := by decide +kernel
theorem dd_Plans_fewestFor_24 : decode c_Plans_fewestFor 24 = .ok (.iload 4, 2) := by decide +kernel
theorem dd_Plans_fewestFor_26 : decode c_Plans_fewestFor 26 = .ok (.invokestatic 125, 3) := by decide +kernel
theorem dd_Plans_fewestFor_29 : decode c_Plans_fewestFor 29 = .ok (.istore 5, 2) := by decide +kernel
theorem dd_Plans_fewestFor_31 : decode c_Plans_fewestFor 31 = .ok (.iload 5, 2) := by decide +kernel
theorem dd_Plans_fewestFor_33 : decode c_Plans_fewestFor 33 = .ok (.iload_n 3, 1) := by decide +kernel
theorem dd_Plans_fewestFor_34 : decode c_Plans_fewestFor 34 = .ok (.if_icmp .ge 19, 3) := by decide +kernel
theorem dd_Plans_fewestFor_37 : decode c_Plans_fewestFor 37 = .ok (.aload_n 0, 1) := by decide +kernel
theorem dd_Plans_fewestFor_38 : decode c_Plans_fewestFor 38 = .ok (.iload 4, 2) := by decide +kernel
theorem dd_Plans_fewestFor_40 : decode c_Plans_fewestFor 40 = .ok (.iload_n 1, 1) := by decide +kernel
theorem dd_Plans_fewestFor_41 : decode c_Plans_fewestFor 41 = .ok (.invokevirtual 130, 3) := by decide +kernel
theorem dd_Plans_fewestFor_44 : decode c_Plans_fewestFor 44 = .ok (.ifCond .eq 9, 3) := by decide +kernel
theorem dd_Plans_fewestFor_47 : decode c_Plans_fewestFor 47 = .ok (.iload 5, 2) := by decide +kernel
theorem dd_Plans_fewestFor_49 : decode c_Plans_fewestFor 49 = .ok (.istore_n 3, 1) := by decide +kernel
theorem dd_Plans_fewestFor_50 : decode c_Plans_fewestFor 50 = .ok (.iload 4, 2) := by decide +kernel
theorem dd_Plans_fewestFor_52 : decode c_Plans_fewestFor 52 = .ok (.istore_n 2, 1) := by decide +kernel
theorem dd_Plans_fewestFor_53 : decode c_Plans_fewestFor 53 = .ok (.iinc 4 1, 3) := by decide +kernel
theorem dd_Plans_fewestFor_56 : decode c_Plans_fewestFor 56 = .ok (.goto (-44), 3) := by decide +kernel
theorem dd_Plans_fewestFor_59 : decode c_Plans_fewestFor 59 = .ok (.iload_n 2, 1) := by decide +kernel
theorem dd_Plans_fewestFor_60 : decode c_Plans_fewestFor 60 = .ok (.ireturn, 1) := by decide +kernel
theorem dd_W_fewest_0 : decode c_W_fewest 0 = .ok (.aload_n 0, 1) := by decide +kernel
theorem dd_W_fewest_1 : decode c_W_fewest 1 = .ok (.getfield 42, 3) := by decide +kernel
theorem dd_W_fewest_4 : decode c_W_fewest 4 = .ok (.invokevirtual 235, 3) := by decide +kernel
theorem dd_W_fewest_7 : decode c_W_fewest 7 = .ok (.ifCond .eq 25, 3) := by decide +kernel
theorem dd_W_fewest_10 : decode c_W_fewest 10 = .ok (.iload_n 1, 1) := by decide +kernel
theorem dd_W_fewest_11 : decode c_W_fewest 11 = .ok (.iconst 1, 1) := by decide +kernel
theorem dd_W_fewest_12 : decode c_W_fewest 12 = .ok (.if_icmp .lt 20, 3) := by decide +kernel
theorem dd_W_fewest_15 : decode c_W_fewest 15 = .ok (.iload_n 1, 1) := by decide +kernel
theorem dd_W_fewest_16 : decode c_W_fewest 16 = .ok (.bipush 20, 2) := by decide +kernel
theorem dd_W_fewest_18 : decode c_W_fewest 18 = .ok (.if_icmp .gt 14, 3) := by decide +kernel
theorem dd_W_fewest_21 : decode c_W_fewest 21 = .ok (.aload_n 0, 1) := by decide +kernel
theorem dd_W_fewest_22 : decode c_W_fewest 22 = .ok (.getfield 83, 3) := by decide +kernel
theorem dd_W_fewest_25 : decode c_W_fewest 25 = .ok (.iload_n 1, 1) := by decide +kernel
theorem dd_W_fewest_26 : decode c_W_fewest 26 = .ok (.invokevirtual 299, 3) := by decide +kernel
theorem dd_W_fewest_29 : decode c_W_fewest 29 = .ok (.goto 4, 3) := by decide +kernel
theorem dd_W_fewest_32 : decode c_W_fewest 32 = .ok (.iconst (-1), 1) := by decide +kernel
theorem dd_W_fewest_33 : decode c_W_fewest 33 = .ok (.ireturn, 1) := by decide +kernel
theorem dd_M_whereOf_0 : decode c_M_whereOf 0 = .ok (.iconst 0, 1) := by decide +kernel
theorem dd_M_whereOf_1 : decode c_M_whereOf 1 = .ok (.istore_n 3, 1) := by decide +kernel
theorem dd_M_whereOf_2 : decode c_M_whereOf 2 = .ok (.iconst 0, 1) := by decide +kernel
theorem dd_M_whereOf_3 : decode c_M_whereOf 3 = .ok (.istore 4, 2) := by decide +kernel
theorem dd_M_whereOf_5 : decode c_M_whereOf 5 = .ok (.iload 4, 2) := by decide +kernel
theorem dd_M_whereOf_7 : decode c_M_whereOf 7 = .ok (.aload_n 0, 1) := by decide +kernel
theorem dd_M_whereOf_8 : decode c_M_whereOf 8 = .ok (.getfield 242, 3) := by decide +kernel
theorem dd_M_whereOf_11 : decode c_M_whereOf 11 = .ok (.if_icmp .ge 31, 3) := by decide +kernel
theorem dd_M_whereOf_14 : decode c_M_whereOf 14 = .ok (.iload_n 3, 1) := by decide +kernel
theorem dd_M_whereOf_15 : decode c_M_whereOf 15 = .ok (.aload_n 0, 1) := by decide +kernel
theorem dd_M_whereOf_16 : decode c_M_whereOf 16 = .ok (.iload 4, 2) := by decide +kernel
theorem dd_M_whereOf_18 : decode c_M_whereOf 18 = .ok (.iload_n 1, 1) := by decide +kernel
theorem dd_M_whereOf_19 : decode c_M_whereOf 19 = .ok (.invokevirtual 284, 3) := by decide +kernel
theorem dd_M_whereOf_22 : decode c_M_whereOf 22 = .ok (.iload_n 2, 1) := by decide +kernel
theorem dd_M_whereOf_23 : decode c_M_whereOf 23 = .ok (.if_icmp .lt 10, 3) := by decide +kernel
theorem dd_M_whereOf_26 : decode c_M_whereOf 26 = .ok (.iconst 1, 1) := by decide +kernel
theorem dd_M_whereOf_27 : decode c_M_whereOf 27 = .ok (.iload 4, 2) := by decide +kernel
theorem dd_M_whereOf_29 : decode c_M_whereOf 29 = .ok (.ishl, 1) := by decide +kernel
theorem dd_M_whereOf_30 : decode c_M_whereOf 30 = .ok (.goto 4, 3) := by decide +kernel
theorem dd_M_whereOf_33 : decode c_M_whereOf 33 = .ok (.iconst 0, 1) := by decide +kernel
theorem dd_M_whereOf_34 : decode c_M_whereOf 34 = .ok (.ior, 1) := by decide +kernel
theorem dd_M_whereOf_35 : decode c_M_whereOf 35 = .ok (.istore_n 3, 1) := by decide +kernel
theorem dd_M_whereOf_36 : decode c_M_whereOf 36 = .ok (.iinc 4 1, 3) := by decide +kernel
theorem dd_M_whereOf_39 : decode c_M_whereOf 39 = .ok (.goto (-34), 3) := by decide +kernel
theorem dd_M_whereOf_42 : decode c_M_whereOf 42 = .ok (.iload_n 3, 1) := by decide +kernel
theorem dd_M_whereOf_43 : decode c_M_whereOf 43 = .ok (.ireturn, 1) := by decide +kernel
theorem dd_M_fewest_0 : decode c_M_fewest 0 = .ok (.aload_n 0, 1) := by decide +kernel
theorem dd_M_fewest_1 : decode c_M_fewest 1 = .ok (.getfield 242, 3) := by decide +kernel
theorem dd_M_fewest_4 : decode c_M_fewest 4 = .ok (.ifCond .eq 13, 3) := by decide +kernel
theorem dd_M_fewest_7 : decode c_M_fewest 7 = .ok (.iload_n 1, 1) := by decide +kernel
theorem dd_M_fewest_8 : decode c_M_fewest 8 = .ok (.iconst 1, 1) := by decide +kernel
theorem dd_M_fewest_9 : decode c_M_fewest 9 = .ok (.bipush 20, 2) := by decide +kernel
theorem dd_M_fewest_11 : decode c_M_fewest 11 = .ok (.invokestatic 205, 3) := by decide +kernel
theorem dd_M_fewest_14 : decode c_M_fewest 14 = .ok (.ifCond .ne 5, 3) := by decide +kernel
theorem dd_M_fewest_17 : decode c_M_fewest 17 = .ok (.iconst (-1), 1) := by decide +kernel
theorem dd_M_fewest_18 : decode c_M_fewest 18 = .ok (.ireturn, 1) := by decide +kernel
theorem dd_M_fewest_19 : decode c_M_fewest 19 = .ok (.iconst (-1), 1) := by decide +kernel
theorem dd_M_fewest_20 : decode c_M_fewest 20 = .ok (.istore_n 2, 1) := by decide +kernel
theorem dd_M_fewest_21 : decode c_M_fewest 21 = .ok (.iconst 1, 1) := by decide +kernel
theorem dd_M_fewest_22 : decode c_M_fewest 22 = .ok (.istore_n 3, 1) := by decide +kernel
theorem dd_M_fewest_23 : decode c_M_fewest 23 = .ok (.iload_n 3, 1) := by decide +kernel
theorem dd_M_fewest_24 : decode c_M_fewest 24 = .ok (.iconst 1, 1) := by decide +kernel
theorem dd_M_fewest_25 : decode c_M_fewest 25 = .ok (.aload_n 0, 1) := by decide +kernel
theorem dd_M_fewest_26 : decode c_M_fewest 26 = .ok (.getfield 245, 3) := by decide +kernel
theorem dd_M_fewest_29 : decode c_M_fewest 29 = .ok (.ishl, 1) := by decide +kernel
theorem dd_M_fewest_30 : decode c_M_fewest 30 = .ok (.if_icmp .ge 102, 3) := by decide +kernel
theorem dd_M_fewest_33 : decode c_M_fewest 33 = .ok (.iconst 0, 1) := by decide +kernel
theorem dd_M_fewest_34 : decode c_M_fewest 34 = .ok (.istore 4, 2) := by decide +kernel
theorem dd_M_fewest_36 : decode c_M_fewest 36 = .ok (.iconst 0, 1) := by decide +kernel
theorem dd_M_fewest_37 : decode c_M_fewest 37 = .ok (.istore 5, 2) := by decide +kernel
theorem dd_M_fewest_39 : decode c_M_fewest 39 = .ok (.iload 5, 2) := by decide +kernel
theorem dd_M_fewest_41 : decode c_M_fewest 41 = .ok (.aload_n 0, 1) := by decide +kernel
theorem dd_M_fewest_42 : decode c_M_fewest 42 = .ok (.getfield 245, 3) := by decide +kernel
theorem dd_M_fewest_45 : decode c_M_fewest 45 = .ok (.if_icmp .ge 34, 3) := by decide +kernel
theorem dd_M_fewest_48 : decode c_M_fewest 48 = .ok (.iload 4, 2) := by decide +kernel
theorem dd_M_fewest_50 : decode c_M_fewest 50 = .ok (.iload_n 3, 1) := by decide +kernel
theorem dd_M_fewest_51 : decode c_M_fewest 51 = .ok (.iload 5, 2) := by decide +kernel
theorem dd_M_fewest_53 : decode c_M_fewest 53 = .ok (.invokestatic 216, 3) := by decide +kernel
theorem dd_M_fewest_56 : decode c_M_fewest 56 = .ok (.ifCond .eq 13, 3) := by decide +kernel
theorem dd_M_fewest_59 : decode c_M_fewest 59 = .ok (.aload_n 0, 1) := by decide +kernel
theorem dd_M_fewest_60 : decode c_M_fewest 60 = .ok (.iload 5, 2) := by decide +kernel
theorem dd_M_fewest_62 : decode c_M_fewest 62 = .ok (.iload_n 1, 1) := by decide +kernel
theorem dd_M_fewest_63 : decode c_M_fewest 63 = .ok (.invokevirtual 371, 3) := by decide +kernel
theorem dd_M_fewest_66 : decode c_M_fewest 66 = .ok (.goto 4, 3) := by decide +kernel
theorem dd_M_fewest_69 : decode c_M_fewest 69 = .ok (.iconst 0, 1) := by decide +kernel
theorem dd_M_fewest_70 : decode c_M_fewest 70 = .ok (.ior, 1) := by decide +kernel
theorem dd_M_fewest_71 : decode c_M_fewest 71 = .ok (.istore 4, 2) := by decide +kernel
theorem dd_M_fewest_73 : decode c_M_fewest 73 = .ok (.iinc 5 1, 3) := by decide +kernel
theorem dd_M_fewest_76 : decode c_M_fewest 76 = .ok (.goto (-37), 3) := by decide +kernel
theorem dd_M_fewest_79 : decode c_M_fewest 79 = .ok (.iload 4, 2) := by decide +kernel
theorem dd_M_fewest_81 : decode c_M_fewest 81 = .ok (.iconst 1, 1) := by decide +kernel
theorem dd_M_fewest_82 : decode c_M_fewest 82 = .ok (.aload_n 0, 1) := by decide +kernel
theorem dd_M_fewest_83 : decode c_M_fewest 83 = .ok (.getfield 242, 3) := by decide +kernel
theorem dd_M_fewest_86 : decode c_M_fewest 86 = .ok (.ishl, 1) := by decide +kernel
theorem dd_M_fewest_87 : decode c_M_fewest 87 = .ok (.iconst 1, 1) := by decide +kernel
theorem dd_M_fewest_88 : decode c_M_fewest 88 = .ok (.isub, 1) := by decide +kernel
theorem dd_M_fewest_89 : decode c_M_fewest 89 = .ok (.if_icmp .ne 7, 3) := by decide +kernel
theorem dd_M_fewest_92 : decode c_M_fewest 92 = .ok (.iconst 1, 1) := by decide +kernel
theorem dd_M_fewest_93 : decode c_M_fewest 93 = .ok (.goto 4, 3) := by decide +kernel
theorem dd_M_fewest_96 : decode c_M_fewest 96 = .ok (.iconst 0, 1) := by decide +kernel
theorem dd_M_fewest_97 : decode c_M_fewest 97 = .ok (.istore 5, 2) := by decide +kernel
theorem dd_M_fewest_99 : decode c_M_fewest 99 = .ok (.iload 5, 2) := by decide +kernel
theorem dd_M_fewest_101 : decode c_M_fewest 101 = .ok (.ifCond .eq 23, 3) := by decide +kernel
theorem dd_M_fewest_104 : decode c_M_fewest 104 = .ok (.iload_n 2, 1) := by decide +kernel
theorem dd_M_fewest_105 : decode c_M_fewest 105 = .ok (.iconst (-1), 1) := by decide +kernel
theorem dd_M_fewest_106 : decode c_M_fewest 106 = .ok (.if_icmp .eq 14, 3) := by decide +kernel
theorem dd_M_fewest_109 : decode c_M_fewest 109 = .ok (.iload_n 3, 1) := by decide +kernel
theorem dd_M_fewest_110 : decode c_M_fewest 110 = .ok (.invokestatic 330, 3) := by decide +kernel
theorem dd_M_fewest_113 : decode c_M_fewest 113 = .ok (.iload_n 2, 1) := by decide +kernel
theorem dd_M_fewest_114 : decode c_M_fewest 114 = .ok (.invokestatic 330, 3) := by decide +kernel
theorem dd_M_fewest_117 : decode c_M_fewest 117 = .ok (.if_icmp .ge 7, 3) := by decide +kernel
theorem dd_M_fewest_120 : decode c_M_fewest 120 = .ok (.iload_n 3, 1) := by decide +kernel
theorem dd_M_fewest_121 : decode c_M_fewest 121 = .ok (.goto 4, 3) := by decide +kernel
theorem dd_M_fewest_124 : decode c_M_fewest 124 = .ok (.iload_n 2, 1) := by decide +kernel
theorem dd_M_fewest_125 : decode c_M_fewest 125 = .ok (.istore_n 2, 1) := by decide +kernel
theorem dd_M_fewest_126 : decode c_M_fewest 126 = .ok (.iinc 3 1, 3) := by decide +kernel
theorem dd_M_fewest_129 : decode c_M_fewest 129 = .ok (.goto (-106), 3) := by decide +kernel
theorem dd_M_fewest_132 : decode c_M_fewest 132 = .ok (.iload_n 2, 1) := by decide +kernel
theorem dd_M_fewest_133 : decode c_M_fewest 133 = .ok (.ireturn, 1) := by decide +kernel
theorem dd_Guess_add_0 : decode c_Guess_add 0 = .ok (.aload_n 0, 1) := by decide +kernel
theorem dd_Guess_add_1 : decode c_Guess_add 1 = .ok (.getfield 30, 3) := by decide +kernel
theorem dd_Guess_add_4 : decode c_Guess_add 4 = .ok (.bipush 10, 2) := by decide +kernel
theorem dd_Guess_add_6 : decode c_Guess_add 6 = .ok (.if_icmp .ge 43, 3) := by decide +kernel
theorem dd_Guess_add_9 : decode c_Guess_add 9 = .ok (.aload_n 0, 1) := by decide +kernel
theorem dd_Guess_add_10 : decode c_Guess_add 10 = .ok (.getfield 11, 3) := by decide +kernel
theorem dd_Guess_add_13 : decode c_Guess_add 13 = .ok (.aload_n 0, 1) := by decide +kernel
theorem dd_Guess_add_14 : decode c_Guess_add 14 = .ok (.getfield 30, 3) := by decide +kernel
theorem dd_Guess_add_17 : decode c_Guess_add 17 = .ok (.iload_n 1, 1) := by decide +kernel
theorem dd_Guess_add_18 : decode c_Guess_add 18 = .ok (.iastore, 1) := by decide +kernel
theorem dd_Guess_add_19 : decode c_Guess_add 19 = .ok (.aload_n 0, 1) := by decide +kernel
theorem dd_Guess_add_20 : decode c_Guess_add 20 = .ok (.getfield 15, 3) := by decide +kernel
theorem dd_Guess_add_23 : decode c_Guess_add 23 = .ok (.aload_n 0, 1) := by decide +kernel
theorem dd_Guess_add_24 : decode c_Guess_add 24 = .ok (.getfield 30, 3) := by decide +kernel
theorem dd_Guess_add_27 : decode c_Guess_add 27 = .ok (.iload_n 2, 1) := by decide +kernel
theorem dd_Guess_add_28 : decode c_Guess_add 28 = .ok (.iastore, 1) := by decide +kernel
theorem dd_Guess_add_29 : decode c_Guess_add 29 = .ok (.aload_n 0, 1) := by decide +kernel
theorem dd_Guess_add_30 : decode c_Guess_add 30 = .ok (.getfield 18, 3) := by decide +kernel
theorem dd_Guess_add_33 : decode c_Guess_add 33 = .ok (.aload_n 0, 1) := by decide +kernel
theorem dd_Guess_add_34 : decode c_Guess_add 34 = .ok (.getfield 30, 3) := by decide +kernel
theorem dd_Guess_add_37 : decode c_Guess_add 37 = .ok (.iload_n 3, 1) := by decide +kernel
theorem dd_Guess_add_38 : decode c_Guess_add 38 = .ok (.bastore, 1) := by decide +kernel
theorem dd_Guess_add_39 : decode c_Guess_add 39 = .ok (.aload_n 0, 1) := by decide +kernel
theorem dd_Guess_add_40 : decode c_Guess_add 40 = .ok (.dup, 1) := by decide +kernel
theorem dd_Guess_add_41 : decode c_Guess_add 41 = .ok (.getfield 30, 3) := by decide +kernel
theorem dd_Guess_add_44 : decode c_Guess_add 44 = .ok (.iconst 1, 1) := by decide +kernel
theorem dd_Guess_add_45 : decode c_Guess_add 45 = .ok (.iadd, 1) := by decide +kernel
theorem dd_Guess_add_46 : decode c_Guess_add 46 = .ok (.putfield 30, 3) := by decide +kernel
theorem dd_Guess_add_49 : decode c_Guess_add 49 = .ok (.return_, 1) := by decide +kernel
theorem dd_W_seen_0 : decode c_W_seen 0 = .ok (.aload_n 0, 1) := by decide +kernel
theorem dd_W_seen_1 : decode c_W_seen 1 = .ok (.getfield 42, 3) := by decide +kernel
theorem dd_W_seen_4 : decode c_W_seen 4 = .ok (.iload_n 1, 1) := by decide +kernel
theorem dd_W_seen_5 : decode c_W_seen 5 = .ok (.invokevirtual 150, 3) := by decide +kernel
theorem dd_W_seen_8 : decode c_W_seen 8 = .ok (.ifCond .eq 25, 3) := by decide +kernel
theorem dd_W_seen_11 : decode c_W_seen 11 = .ok (.iload_n 2, 1) := by decide +kernel
theorem dd_W_seen_12 : decode c_W_seen 12 = .ok (.ifCond .lt 21, 3) := by decide +kernel
theorem dd_W_seen_15 : decode c_W_seen 15 = .ok (.iload_n 2, 1) := by decide +kernel
theorem dd_W_seen_16 : decode c_W_seen 16 = .ok (.bipush 20, 2) := by decide +kernel
theorem dd_W_seen_18 : decode c_W_seen 18 = .ok (.if_icmp .gt 15, 3) := by decide +kernel
theorem dd_W_seen_21 : decode c_W_seen 21 = .ok (.aload_n 0, 1) := by decide +kernel
theorem dd_W_seen_22 : decode c_W_seen 22 = .ok (.getfield 74, 3) := by decide +kernel
theorem dd_W_seen_25 : decode c_W_seen 25 = .ok (.getfield 147, 3) := by decide +kernel
theorem dd_W_seen_28 : decode c_W_seen 28 = .ok (.bipush 10, 2) := by decide +kernel
theorem dd_W_seen_30 : decode c_W_seen 30 = .ok (.if_icmp .lt 5, 3) := by decide +kernel
theorem dd_W_seen_33 : decode c_W_seen 33 = .ok (.iconst (-1), 1) := by decide +kernel
theorem dd_W_seen_34 : decode c_W_seen 34 = .ok (.ireturn, 1) := by decide +kernel
theorem dd_W_seen_35 : decode c_W_seen 35 = .ok (.aload_n 0, 1) := by decide +kernel
theorem dd_W_seen_36 : decode c_W_seen 36 = .ok (.getfield 74, 3) := by decide +kernel
theorem dd_W_seen_39 : decode c_W_seen 39 = .ok (.iload_n 1, 1) := by decide +kernel
theorem dd_W_seen_40 : decode c_W_seen 40 = .ok (.iload_n 2, 1) := by decide +kernel
theorem dd_W_seen_41 : decode c_W_seen 41 = .ok (.iload_n 3, 1) := by decide +kernel
theorem dd_W_seen_42 : decode c_W_seen 42 = .ok (.invokevirtual 302, 3) := by decide +kernel
theorem dd_W_seen_45 : decode c_W_seen 45 = .ok (.aload_n 0, 1) := by decide +kernel
theorem dd_W_seen_46 : decode c_W_seen 46 = .ok (.getfield 74, 3) := by decide +kernel
theorem dd_W_seen_49 : decode c_W_seen 49 = .ok (.getfield 147, 3) := by decide +kernel
theorem dd_W_seen_52 : decode c_W_seen 52 = .ok (.ireturn, 1) := by decide +kernel
theorem dd_M_seen_0 : decode c_M_seen 0 = .ok (.aload_n 0, 1) := by decide +kernel
theorem dd_M_seen_1 : decode c_M_seen 1 = .ok (.iload_n 1, 1) := by decide +kernel
theorem dd_M_seen_2 : decode c_M_seen 2 = .ok (.invokevirtual 300, 3) := by decide +kernel
theorem dd_M_seen_5 : decode c_M_seen 5 = .ok (.ifCond .eq 22, 3) := by decide +kernel
theorem dd_M_seen_8 : decode c_M_seen 8 = .ok (.iload_n 2, 1) := by decide +kernel
theorem dd_M_seen_9 : decode c_M_seen 9 = .ok (.iconst 0, 1) := by decide +kernel
theorem dd_M_seen_10 : decode c_M_seen 10 = .ok (.bipush 20, 2) := by decide +kernel
theorem dd_M_seen_12 : decode c_M_seen 12 = .ok (.invokestatic 205, 3) := by decide +kernel
theorem dd_M_seen_15 : decode c_M_seen 15 = .ok (.ifCond .eq 12, 3) := by decide +kernel
theorem dd_M_seen_18 : decode c_M_seen 18 = .ok (.aload_n 0, 1) := by decide +kernel
theorem dd_M_seen_19 : decode c_M_seen 19 = .ok (.getfield 254, 3) := by decide +kernel
theorem dd_M_seen_22 : decode c_M_seen 22 = .ok (.bipush 10, 2) := by decide +kernel
theorem dd_M_seen_24 : decode c_M_seen 24 = .ok (.if_icmp .ne 5, 3) := by decide +kernel
theorem dd_M_seen_27 : decode c_M_seen 27 = .ok (.iconst (-1), 1) := by decide +kernel
theorem dd_M_seen_28 : decode c_M_seen 28 = .ok (.ireturn, 1) := by decide +kernel
theorem dd_M_seen_29 : decode c_M_seen 29 = .ok (.aload_n 0, 1) := by decide +kernel
theorem dd_M_seen_30 : decode c_M_seen 30 = .ok (.getfield 77, 3) := by decide +kernel
theorem dd_M_seen_33 : decode c_M_seen 33 = .ok (.aload_n 0, 1) := by decide +kernel
theorem dd_M_seen_34 : decode c_M_seen 34 = .ok (.getfield 254, 3) := by decide +kernel
theorem dd_M_seen_37 : decode c_M_seen 37 = .ok (.iload_n 1, 1) := by decide +kernel
theorem dd_M_seen_38 : decode c_M_seen 38 = .ok (.iastore, 1) := by decide +kernel
theorem dd_M_seen_39 : decode c_M_seen 39 = .ok (.aload_n 0, 1) := by decide +kernel
theorem dd_M_seen_40 : decode c_M_seen 40 = .ok (.getfield 80, 3) := by decide +kernel
theorem dd_M_seen_43 : decode c_M_seen 43 = .ok (.aload_n 0, 1) := by decide +kernel
theorem dd_M_seen_44 : decode c_M_seen 44 = .ok (.getfield 254, 3) := by decide +kernel
theorem dd_M_seen_47 : decode c_M_seen 47 = .ok (.iload_n 2, 1) := by decide +kernel
theorem dd_M_seen_48 : decode c_M_seen 48 = .ok (.iastore, 1) := by decide +kernel
theorem dd_M_seen_49 : decode c_M_seen 49 = .ok (.aload_n 0, 1) := by decide +kernel
theorem dd_M_seen_50 : decode c_M_seen 50 = .ok (.getfield 83, 3) := by decide +kernel
theorem dd_M_seen_53 : decode c_M_seen 53 = .ok (.aload_n 0, 1) := by decide +kernel
theorem dd_M_seen_54 : decode c_M_seen 54 = .ok (.getfield 254, 3) := by decide +kernel
theorem dd_M_seen_57 : decode c_M_seen 57 = .ok (.iload_n 3, 1) := by decide +kernel
theorem dd_M_seen_58 : decode c_M_seen 58 = .ok (.bastore, 1) := by decide +kernel
theorem dd_M_seen_59 : decode c_M_seen 59 = .ok (.aload_n 0, 1) := by decide +kernel
theorem dd_M_seen_60 : decode c_M_seen 60 = .ok (.dup, 1) := by decide +kernel
theorem dd_M_seen_61 : decode c_M_seen 61 = .ok (.getfield 254, 3) := by decide +kernel
theorem dd_M_seen_64 : decode c_M_seen 64 = .ok (.iconst 1, 1) := by decide +kernel
theorem dd_M_seen_65 : decode c_M_seen 65 = .ok (.iadd, 1) := by decide +kernel
theorem dd_M_seen_66 : decode c_M_seen 66 = .ok (.putfield 254, 3) := by decide +kernel
theorem dd_M_seen_69 : decode c_M_seen 69 = .ok (.aload_n 0, 1) := by decide +kernel
theorem dd_M_seen_70 : decode c_M_seen 70 = .ok (.getfield 254, 3) := by decide +kernel
theorem dd_M_seen_73 : decode c_M_seen 73 = .ok (.ireturn, 1) := by decide +kernel
theorem dd_Stays_asTold_0 : decode c_Stays_asTold 0 = .ok (.aload_n 0, 1) := by decide +kernel
theorem dd_Stays_asTold_1 : decode c_Stays_asTold 1 = .ok (.iload_n 1, 1) := by decide +kernel
theorem dd_Stays_asTold_2 : decode c_Stays_asTold 2 = .ok (.iload_n 2, 1) := by decide +kernel
theorem dd_Stays_asTold_3 : decode c_Stays_asTold 3 = .ok (.aload_n 0, 1) := by decide +kernel
theorem dd_Stays_asTold_4 : decode c_Stays_asTold 4 = .ok (.getfield 9, 3) := by decide +kernel
theorem dd_Stays_asTold_7 : decode c_Stays_asTold 7 = .ok (.iload_n 1, 1) := by decide +kernel
theorem dd_Stays_asTold_8 : decode c_Stays_asTold 8 = .ok (.iload_n 2, 1) := by decide +kernel
theorem dd_Stays_asTold_9 : decode c_Stays_asTold 9 = .ok (.invokevirtual 40, 3) := by decide +kernel
theorem dd_Stays_asTold_12 : decode c_Stays_asTold 12 = .ok (.ifCond .eq 7, 3) := by decide +kernel
theorem dd_Stays_asTold_15 : decode c_Stays_asTold 15 = .ok (.iconst 1, 1) := by decide +kernel
theorem dd_Stays_asTold_16 : decode c_Stays_asTold 16 = .ok (.goto 4, 3) := by decide +kernel
theorem dd_Stays_asTold_19 : decode c_Stays_asTold 19 = .ok (.iconst 0, 1) := by decide +kernel
theorem dd_Stays_asTold_20 : decode c_Stays_asTold 20 = .ok (.aload_n 0, 1) := by decide +kernel
theorem dd_Stays_asTold_21 : decode c_Stays_asTold 21 = .ok (.getfield 9, 3) := by decide +kernel
theorem dd_Stays_asTold_24 : decode c_Stays_asTold 24 = .ok (.getfield 46, 3) := by decide +kernel
theorem dd_Stays_asTold_27 : decode c_Stays_asTold 27 = .ok (.iload_n 2, 1) := by decide +kernel
theorem dd_Stays_asTold_28 : decode c_Stays_asTold 28 = .ok (.iaload, 1) := by decide +kernel
theorem dd_Stays_asTold_29 : decode c_Stays_asTold 29 = .ok (.invokevirtual 32, 3) := by decide +kernel
theorem dd_Stays_asTold_32 : decode c_Stays_asTold 32 = .ok (.ireturn, 1) := by decide +kernel
theorem dd_Guess_fits_0 : decode c_Guess_fits 0 = .ok (.iconst 0, 1) := by decide +kernel
theorem dd_Guess_fits_1 : decode c_Guess_fits 1 = .ok (.istore_n 2, 1) := by decide +kernel
theorem dd_Guess_fits_2 : decode c_Guess_fits 2 = .ok (.iload_n 2, 1) := by decide +kernel
theorem dd_Guess_fits_3 : decode c_Guess_fits 3 = .ok (.aload_n 0, 1) := by decide +kernel
theorem dd_Guess_fits_4 : decode c_Guess_fits 4 = .ok (.getfield 30, 3) := by decide +kernel
theorem dd_Guess_fits_7 : decode c_Guess_fits 7 = .ok (.if_icmp .ge 48, 3) := by decide +kernel
theorem dd_Guess_fits_10 : decode c_Guess_fits 10 = .ok (.aload_n 0, 1) := by decide +kernel
theorem dd_Guess_fits_11 : decode c_Guess_fits 11 = .ok (.getfield 26, 3) := by decide +kernel
theorem dd_Guess_fits_14 : decode c_Guess_fits 14 = .ok (.aload_n 0, 1) := by decide +kernel
theorem dd_Guess_fits_15 : decode c_Guess_fits 15 = .ok (.getfield 11, 3) := by decide +kernel
theorem dd_Guess_fits_18 : decode c_Guess_fits 18 = .ok (.iload_n 2, 1) := by decide +kernel
theorem dd_Guess_fits_19 : decode c_Guess_fits 19 = .ok (.iaload, 1) := by decide +kernel
theorem dd_Guess_fits_20 : decode c_Guess_fits 20 = .ok (.iload_n 1, 1) := by decide +kernel
theorem dd_Guess_fits_21 : decode c_Guess_fits 21 = .ok (.invokevirtual 43, 3) := by decide +kernel
theorem dd_Guess_fits_24 : decode c_Guess_fits 24 = .ok (.aload_n 0, 1) := by decide +kernel
theorem dd_Guess_fits_25 : decode c_Guess_fits 25 = .ok (.getfield 15, 3) := by decide +kernel
theorem dd_Guess_fits_28 : decode c_Guess_fits 28 = .ok (.iload_n 2, 1) := by decide +kernel
theorem dd_Guess_fits_29 : decode c_Guess_fits 29 = .ok (.iaload, 1) := by decide +kernel
theorem dd_Guess_fits_30 : decode c_Guess_fits 30 = .ok (.if_icmp .lt 7, 3) := by decide +kernel
theorem dd_Guess_fits_33 : decode c_Guess_fits 33 = .ok (.iconst 1, 1) := by decide +kernel
theorem dd_Guess_fits_34 : decode c_Guess_fits 34 = .ok (.goto 4, 3) := by decide +kernel
theorem dd_Guess_fits_37 : decode c_Guess_fits 37 = .ok (.iconst 0, 1) := by decide +kernel
theorem dd_Guess_fits_38 : decode c_Guess_fits 38 = .ok (.aload_n 0, 1) := by decide +kernel
theorem dd_Guess_fits_39 : decode c_Guess_fits 39 = .ok (.getfield 18, 3) := by decide +kernel
theorem dd_Guess_fits_42 : decode c_Guess_fits 42 = .ok (.iload_n 2, 1) := by decide +kernel
theorem dd_Guess_fits_43 : decode c_Guess_fits 43 = .ok (.baload, 1) := by decide +kernel
theorem dd_Guess_fits_44 : decode c_Guess_fits 44 = .ok (.if_icmp .eq 5, 3) := by decide +kernel
theorem dd_Guess_fits_47 : decode c_Guess_fits 47 = .ok (.iconst 0, 1) := by decide +kernel
theorem dd_Guess_fits_48 : decode c_Guess_fits 48 = .ok (.ireturn, 1) := by decide +kernel
theorem dd_Guess_fits_49 : decode c_Guess_fits 49 = .ok (.iinc 2 1, 3) := by decide +kernel
theorem dd_Guess_fits_52 : decode c_Guess_fits 52 = .ok (.goto (-50), 3) := by decide +kernel
theorem dd_Guess_fits_55 : decode c_Guess_fits 55 = .ok (.iconst 1, 1) := by decide +kernel
theorem dd_Guess_fits_56 : decode c_Guess_fits 56 = .ok (.ireturn, 1) := by decide +kernel
