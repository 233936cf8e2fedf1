/-! ===== decode rows ===== -/
theorem dd_Tape_signsOf_0 : decode c_Tape_signsOf 0 = .ok (.iconst 0, 1) := by decide +kernel
theorem dd_Tape_signsOf_1 : decode c_Tape_signsOf 1 = .ok (.istore_n 1, 1) := by decide +kernel
theorem dd_Tape_signsOf_2 : decode c_Tape_signsOf 2 = .ok (.bipush 24, 2) := by decide +kernel
theorem dd_Tape_signsOf_4 : decode c_Tape_signsOf 4 = .ok (.istore_n 2, 1) := by decide +kernel
theorem dd_Tape_signsOf_5 : decode c_Tape_signsOf 5 = .ok (.iload_n 2, 1) := by decide +kernel
theorem dd_Tape_signsOf_6 : decode c_Tape_signsOf 6 = .ok (.ifCond .lt 22, 3) := by decide +kernel
theorem dd_Tape_signsOf_9 : decode c_Tape_signsOf 9 = .ok (.iload_n 0, 1) := by decide +kernel
theorem dd_Tape_signsOf_10 : decode c_Tape_signsOf 10 = .ok (.iload_n 2, 1) := by decide +kernel
theorem dd_Tape_signsOf_11 : decode c_Tape_signsOf 11 = .ok (.iushr, 1) := by decide +kernel
theorem dd_Tape_signsOf_12 : decode c_Tape_signsOf 12 = .ok (.sipush 255, 3) := by decide +kernel
theorem dd_Tape_signsOf_15 : decode c_Tape_signsOf 15 = .ok (.iand, 1) := by decide +kernel
theorem dd_Tape_signsOf_16 : decode c_Tape_signsOf 16 = .ok (.ifCond .eq 6, 3) := by decide +kernel
theorem dd_Tape_signsOf_19 : decode c_Tape_signsOf 19 = .ok (.iinc 1 1, 3) := by decide +kernel
theorem dd_Tape_signsOf_22 : decode c_Tape_signsOf 22 = .ok (.iinc 2 (-8), 3) := by decide +kernel
theorem dd_Tape_signsOf_25 : decode c_Tape_signsOf 25 = .ok (.goto (-20), 3) := by decide +kernel
theorem dd_Tape_signsOf_28 : decode c_Tape_signsOf 28 = .ok (.iload_n 1, 1) := by decide +kernel
theorem dd_Tape_signsOf_29 : decode c_Tape_signsOf 29 = .ok (.ireturn, 1) := by decide +kernel
theorem dd_Tape_add_0 : decode c_Tape_add 0 = .ok (.bipush 24, 2) := by decide +kernel
theorem dd_Tape_add_2 : decode c_Tape_add 2 = .ok (.istore_n 2, 1) := by decide +kernel
theorem dd_Tape_add_3 : decode c_Tape_add 3 = .ok (.iload_n 2, 1) := by decide +kernel
theorem dd_Tape_add_4 : decode c_Tape_add 4 = .ok (.ifCond .lt 51, 3) := by decide +kernel
theorem dd_Tape_add_7 : decode c_Tape_add 7 = .ok (.iload_n 1, 1) := by decide +kernel
theorem dd_Tape_add_8 : decode c_Tape_add 8 = .ok (.iload_n 2, 1) := by decide +kernel
theorem dd_Tape_add_9 : decode c_Tape_add 9 = .ok (.iushr, 1) := by decide +kernel
theorem dd_Tape_add_10 : decode c_Tape_add 10 = .ok (.sipush 255, 3) := by decide +kernel
theorem dd_Tape_add_13 : decode c_Tape_add 13 = .ok (.iand, 1) := by decide +kernel
theorem dd_Tape_add_14 : decode c_Tape_add 14 = .ok (.istore_n 3, 1) := by decide +kernel
theorem dd_Tape_add_15 : decode c_Tape_add 15 = .ok (.iload_n 3, 1) := by decide +kernel
theorem dd_Tape_add_16 : decode c_Tape_add 16 = .ok (.ifCond .eq 33, 3) := by decide +kernel
theorem dd_Tape_add_19 : decode c_Tape_add 19 = .ok (.aload_n 0, 1) := by decide +kernel
theorem dd_Tape_add_20 : decode c_Tape_add 20 = .ok (.getfield 15, 3) := by decide +kernel
theorem dd_Tape_add_23 : decode c_Tape_add 23 = .ok (.sipush 240, 3) := by decide +kernel
theorem dd_Tape_add_26 : decode c_Tape_add 26 = .ok (.if_icmp .ge 23, 3) := by decide +kernel
theorem dd_Tape_add_29 : decode c_Tape_add 29 = .ok (.aload_n 0, 1) := by decide +kernel
theorem dd_Tape_add_30 : decode c_Tape_add 30 = .ok (.getfield 11, 3) := by decide +kernel
theorem dd_Tape_add_33 : decode c_Tape_add 33 = .ok (.aload_n 0, 1) := by decide +kernel
theorem dd_Tape_add_34 : decode c_Tape_add 34 = .ok (.getfield 15, 3) := by decide +kernel
theorem dd_Tape_add_37 : decode c_Tape_add 37 = .ok (.iload_n 3, 1) := by decide +kernel
theorem dd_Tape_add_38 : decode c_Tape_add 38 = .ok (.iastore, 1) := by decide +kernel
theorem dd_Tape_add_39 : decode c_Tape_add 39 = .ok (.aload_n 0, 1) := by decide +kernel
theorem dd_Tape_add_40 : decode c_Tape_add 40 = .ok (.dup, 1) := by decide +kernel
theorem dd_Tape_add_41 : decode c_Tape_add 41 = .ok (.getfield 15, 3) := by decide +kernel
theorem dd_Tape_add_44 : decode c_Tape_add 44 = .ok (.iconst 1, 1) := by decide +kernel
theorem dd_Tape_add_45 : decode c_Tape_add 45 = .ok (.iadd, 1) := by decide +kernel
theorem dd_Tape_add_46 : decode c_Tape_add 46 = .ok (.putfield 15, 3) := by decide +kernel
theorem dd_Tape_add_49 : decode c_Tape_add 49 = .ok (.iinc 2 (-8), 3) := by decide +kernel
theorem dd_Tape_add_52 : decode c_Tape_add 52 = .ok (.goto (-49), 3) := by decide +kernel
theorem dd_Tape_add_55 : decode c_Tape_add 55 = .ok (.return_, 1) := by decide +kernel
theorem dd_W_feed_0 : decode c_W_feed 0 = .ok (.iload_n 1, 1) := by decide +kernel
theorem dd_W_feed_1 : decode c_W_feed 1 = .ok (.invokestatic 102, 3) := by decide +kernel
theorem dd_W_feed_4 : decode c_W_feed 4 = .ok (.iload_n 2, 1) := by decide +kernel
theorem dd_W_feed_5 : decode c_W_feed 5 = .ok (.invokestatic 102, 3) := by decide +kernel
theorem dd_W_feed_8 : decode c_W_feed 8 = .ok (.iadd, 1) := by decide +kernel
theorem dd_W_feed_9 : decode c_W_feed 9 = .ok (.iload_n 3, 1) := by decide +kernel
theorem dd_W_feed_10 : decode c_W_feed 10 = .ok (.invokestatic 102, 3) := by decide +kernel
theorem dd_W_feed_13 : decode c_W_feed 13 = .ok (.iadd, 1) := by decide +kernel
theorem dd_W_feed_14 : decode c_W_feed 14 = .ok (.iload 4, 2) := by decide +kernel
theorem dd_W_feed_16 : decode c_W_feed 16 = .ok (.invokestatic 102, 3) := by decide +kernel
theorem dd_W_feed_19 : decode c_W_feed 19 = .ok (.iadd, 1) := by decide +kernel
theorem dd_W_feed_20 : decode c_W_feed 20 = .ok (.iload 5, 2) := by decide +kernel
theorem dd_W_feed_22 : decode c_W_feed 22 = .ok (.invokestatic 102, 3) := by decide +kernel
theorem dd_W_feed_25 : decode c_W_feed 25 = .ok (.iadd, 1) := by decide +kernel
theorem dd_W_feed_26 : decode c_W_feed 26 = .ok (.istore 6, 2) := by decide +kernel
theorem dd_W_feed_28 : decode c_W_feed 28 = .ok (.aload_n 0, 1) := by decide +kernel
theorem dd_W_feed_29 : decode c_W_feed 29 = .ok (.getfield 12, 3) := by decide +kernel
theorem dd_W_feed_32 : decode c_W_feed 32 = .ok (.getfield 106, 3) := by decide +kernel
theorem dd_W_feed_35 : decode c_W_feed 35 = .ok (.iload 6, 2) := by decide +kernel
theorem dd_W_feed_37 : decode c_W_feed 37 = .ok (.iadd, 1) := by decide +kernel
theorem dd_W_feed_38 : decode c_W_feed 38 = .ok (.sipush 240, 3) := by decide +kernel
theorem dd_W_feed_41 : decode c_W_feed 41 = .ok (.if_icmp .le 5, 3) := by decide +kernel
theorem dd_W_feed_44 : decode c_W_feed 44 = .ok (.iconst (-1), 1) := by decide +kernel
theorem dd_W_feed_45 : decode c_W_feed 45 = .ok (.ireturn, 1) := by decide +kernel
theorem dd_W_feed_46 : decode c_W_feed 46 = .ok (.aload_n 0, 1) := by decide +kernel
theorem dd_W_feed_47 : decode c_W_feed 47 = .ok (.getfield 12, 3) := by decide +kernel
theorem dd_W_feed_50 : decode c_W_feed 50 = .ok (.iload_n 1, 1) := by decide +kernel
theorem dd_W_feed_51 : decode c_W_feed 51 = .ok (.invokevirtual 109, 3) := by decide +kernel
theorem dd_W_feed_54 : decode c_W_feed 54 = .ok (.aload_n 0, 1) := by decide +kernel
theorem dd_W_feed_55 : decode c_W_feed 55 = .ok (.getfield 12, 3) := by decide +kernel
theorem dd_W_feed_58 : decode c_W_feed 58 = .ok (.iload_n 2, 1) := by decide +kernel
theorem dd_W_feed_59 : decode c_W_feed 59 = .ok (.invokevirtual 109, 3) := by decide +kernel
theorem dd_W_feed_62 : decode c_W_feed 62 = .ok (.aload_n 0, 1) := by decide +kernel
theorem dd_W_feed_63 : decode c_W_feed 63 = .ok (.getfield 12, 3) := by decide +kernel
theorem dd_W_feed_66 : decode c_W_feed 66 = .ok (.iload_n 3, 1) := by decide +kernel
theorem dd_W_feed_67 : decode c_W_feed 67 = .ok (.invokevirtual 109, 3) := by decide +kernel
theorem dd_W_feed_70 : decode c_W_feed 70 = .ok (.aload_n 0, 1) := by decide +kernel
theorem dd_W_feed_71 : decode c_W_feed 71 = .ok (.getfield 12, 3) := by decide +kernel
theorem dd_W_feed_74 : decode c_W_feed 74 = .ok (.iload 4, 2) := by decide +kernel
theorem dd_W_feed_76 : decode c_W_feed 76 = .ok (.invokevirtual 109, 3) := by decide +kernel
theorem dd_W_feed_79 : decode c_W_feed 79 = .ok (.aload_n 0, 1) := by decide +kernel
theorem dd_W_feed_80 : decode c_W_feed 80 = .ok (.getfield 12, 3) := by decide +kernel
theorem dd_W_feed_83 : decode c_W_feed 83 = .ok (.iload 5, 2) := by decide +kernel
theorem dd_W_feed_85 : decode c_W_feed 85 = .ok (.invokevirtual 109, 3) := by decide +kernel
theorem dd_W_feed_88 : decode c_W_feed 88 = .ok (.aload_n 0, 1) := by decide +kernel
theorem dd_W_feed_89 : decode c_W_feed 89 = .ok (.getfield 12, 3) := by decide +kernel
theorem dd_W_feed_92 : decode c_W_feed 92 = .ok (.getfield 106, 3) := by decide +kernel
theorem dd_W_feed_95 : decode c_W_feed 95 = .ok (.ireturn, 1) := by decide +kernel
theorem dd_M_byteOf_0 : decode c_M_byteOf 0 = .ok (.iload 5, 2) := by decide +kernel
theorem dd_M_byteOf_2 : decode c_M_byteOf 2 = .ok (.iconst 4, 1) := by decide +kernel
theorem dd_M_byteOf_3 : decode c_M_byteOf 3 = .ok (.if_icmp .ge 7, 3) := by decide +kernel
theorem dd_M_byteOf_6 : decode c_M_byteOf 6 = .ok (.iload_n 0, 1) := by decide +kernel
theorem dd_M_byteOf_7 : decode c_M_byteOf 7 = .ok (.goto 38, 3) := by decide +kernel
theorem dd_M_byteOf_10 : decode c_M_byteOf 10 = .ok (.iload 5, 2) := by decide +kernel
theorem dd_M_byteOf_12 : decode c_M_byteOf 12 = .ok (.bipush 8, 2) := by decide +kernel
theorem dd_M_byteOf_14 : decode c_M_byteOf 14 = .ok (.if_icmp .ge 7, 3) := by decide +kernel
theorem dd_M_byteOf_17 : decode c_M_byteOf 17 = .ok (.iload_n 1, 1) := by decide +kernel
theorem dd_M_byteOf_18 : decode c_M_byteOf 18 = .ok (.goto 27, 3) := by decide +kernel
theorem dd_M_byteOf_21 : decode c_M_byteOf 21 = .ok (.iload 5, 2) := by decide +kernel
theorem dd_M_byteOf_23 : decode c_M_byteOf 23 = .ok (.bipush 12, 2) := by decide +kernel
theorem dd_M_byteOf_25 : decode c_M_byteOf 25 = .ok (.if_icmp .ge 7, 3) := by decide +kernel
theorem dd_M_byteOf_28 : decode c_M_byteOf 28 = .ok (.iload_n 2, 1) := by decide +kernel
theorem dd_M_byteOf_29 : decode c_M_byteOf 29 = .ok (.goto 16, 3) := by decide +kernel
theorem dd_M_byteOf_32 : decode c_M_byteOf 32 = .ok (.iload 5, 2) := by decide +kernel
theorem dd_M_byteOf_34 : decode c_M_byteOf 34 = .ok (.bipush 16, 2) := by decide +kernel
theorem dd_M_byteOf_36 : decode c_M_byteOf 36 = .ok (.if_icmp .ge 7, 3) := by decide +kernel
theorem dd_M_byteOf_39 : decode c_M_byteOf 39 = .ok (.iload_n 3, 1) := by decide +kernel
theorem dd_M_byteOf_40 : decode c_M_byteOf 40 = .ok (.goto 5, 3) := by decide +kernel
theorem dd_M_byteOf_43 : decode c_M_byteOf 43 = .ok (.iload 4, 2) := by decide +kernel
theorem dd_M_byteOf_45 : decode c_M_byteOf 45 = .ok (.istore 6, 2) := by decide +kernel
theorem dd_M_byteOf_47 : decode c_M_byteOf 47 = .ok (.iload 6, 2) := by decide +kernel
theorem dd_M_byteOf_49 : decode c_M_byteOf 49 = .ok (.bipush 24, 2) := by decide +kernel
theorem dd_M_byteOf_51 : decode c_M_byteOf 51 = .ok (.bipush 8, 2) := by decide +kernel
theorem dd_M_byteOf_53 : decode c_M_byteOf 53 = .ok (.iload 5, 2) := by decide +kernel
theorem dd_M_byteOf_55 : decode c_M_byteOf 55 = .ok (.iconst 4, 1) := by decide +kernel
theorem dd_M_byteOf_56 : decode c_M_byteOf 56 = .ok (.irem, 1) := by decide +kernel
theorem dd_M_byteOf_57 : decode c_M_byteOf 57 = .ok (.imul, 1) := by decide +kernel
theorem dd_M_byteOf_58 : decode c_M_byteOf 58 = .ok (.isub, 1) := by decide +kernel
theorem dd_M_byteOf_59 : decode c_M_byteOf 59 = .ok (.ishr, 1) := by decide +kernel
theorem dd_M_byteOf_60 : decode c_M_byteOf 60 = .ok (.sipush 255, 3) := by decide +kernel
theorem dd_M_byteOf_63 : decode c_M_byteOf 63 = .ok (.iand, 1) := by decide +kernel
theorem dd_M_byteOf_64 : decode c_M_byteOf 64 = .ok (.ireturn, 1) := by decide +kernel
theorem dd_M_feed_0 : decode c_M_feed 0 = .ok (.iconst 0, 1) := by decide +kernel
theorem dd_M_feed_1 : decode c_M_feed 1 = .ok (.istore 6, 2) := by decide +kernel
theorem dd_M_feed_3 : decode c_M_feed 3 = .ok (.iconst 0, 1) := by decide +kernel
theorem dd_M_feed_4 : decode c_M_feed 4 = .ok (.istore 7, 2) := by decide +kernel
theorem dd_M_feed_6 : decode c_M_feed 6 = .ok (.iload 7, 2) := by decide +kernel
theorem dd_M_feed_8 : decode c_M_feed 8 = .ok (.bipush 20, 2) := by decide +kernel
theorem dd_M_feed_10 : decode c_M_feed 10 = .ok (.if_icmp .ge 34, 3) := by decide +kernel
theorem dd_M_feed_13 : decode c_M_feed 13 = .ok (.iload 6, 2) := by decide +kernel
theorem dd_M_feed_15 : decode c_M_feed 15 = .ok (.iload_n 1, 1) := by decide +kernel
theorem dd_M_feed_16 : decode c_M_feed 16 = .ok (.iload_n 2, 1) := by decide +kernel
theorem dd_M_feed_17 : decode c_M_feed 17 = .ok (.iload_n 3, 1) := by decide +kernel
theorem dd_M_feed_18 : decode c_M_feed 18 = .ok (.iload 4, 2) := by decide +kernel
theorem dd_M_feed_20 : decode c_M_feed 20 = .ok (.iload 5, 2) := by decide +kernel
theorem dd_M_feed_22 : decode c_M_feed 22 = .ok (.iload 7, 2) := by decide +kernel
theorem dd_M_feed_24 : decode c_M_feed 24 = .ok (.invokestatic 93, 3) := by decide +kernel
theorem dd_M_feed_27 : decode c_M_feed 27 = .ok (.ifCond .eq 7, 3) := by decide +kernel
theorem dd_M_feed_30 : decode c_M_feed 30 = .ok (.iconst 1, 1) := by decide +kernel
theorem dd_M_feed_31 : decode c_M_feed 31 = .ok (.goto 4, 3) := by decide +kernel
theorem dd_M_feed_34 : decode c_M_feed 34 = .ok (.iconst 0, 1) := by decide +kernel
theorem dd_M_feed_35 : decode c_M_feed 35 = .ok (.iadd, 1) := by decide +kernel
theorem dd_M_feed_36 : decode c_M_feed 36 = .ok (.istore 6, 2) := by decide +kernel
theorem dd_M_feed_38 : decode c_M_feed 38 = .ok (.iinc 7 1, 3) := by decide +kernel
theorem dd_M_feed_41 : decode c_M_feed 41 = .ok (.goto (-35), 3) := by decide +kernel
theorem dd_M_feed_44 : decode c_M_feed 44 = .ok (.aload_n 0, 1) := by decide +kernel
theorem dd_M_feed_45 : decode c_M_feed 45 = .ok (.getfield 97, 3) := by decide +kernel
theorem dd_M_feed_48 : decode c_M_feed 48 = .ok (.iload 6, 2) := by decide +kernel
theorem dd_M_feed_50 : decode c_M_feed 50 = .ok (.iadd, 1) := by decide +kernel
theorem dd_M_feed_51 : decode c_M_feed 51 = .ok (.sipush 240, 3) := by decide +kernel
theorem dd_M_feed_54 : decode c_M_feed 54 = .ok (.if_icmp .le 5, 3) := by decide +kernel
theorem dd_M_feed_57 : decode c_M_feed 57 = .ok (.iconst (-1), 1) := by decide +kernel
theorem dd_M_feed_58 : decode c_M_feed 58 = .ok (.ireturn, 1) := by decide +kernel
theorem dd_M_feed_59 : decode c_M_feed 59 = .ok (.iconst 0, 1) := by decide +kernel
theorem dd_M_feed_60 : decode c_M_feed 60 = .ok (.istore 7, 2) := by decide +kernel
theorem dd_M_feed_62 : decode c_M_feed 62 = .ok (.iload 7, 2) := by decide +kernel
theorem dd_M_feed_64 : decode c_M_feed 64 = .ok (.bipush 20, 2) := by decide +kernel
theorem dd_M_feed_66 : decode c_M_feed 66 = .ok (.if_icmp .ge 49, 3) := by decide +kernel
theorem dd_M_feed_69 : decode c_M_feed 69 = .ok (.iload_n 1, 1) := by decide +kernel
theorem dd_M_feed_70 : decode c_M_feed 70 = .ok (.iload_n 2, 1) := by decide +kernel
theorem dd_M_feed_71 : decode c_M_feed 71 = .ok (.iload_n 3, 1) := by decide +kernel
theorem dd_M_feed_72 : decode c_M_feed 72 = .ok (.iload 4, 2) := by decide +kernel
theorem dd_M_feed_74 : decode c_M_feed 74 = .ok (.iload 5, 2) := by decide +kernel
theorem dd_M_feed_76 : decode c_M_feed 76 = .ok (.iload 7, 2) := by decide +kernel
theorem dd_M_feed_78 : decode c_M_feed 78 = .ok (.invokestatic 93, 3) := by decide +kernel
theorem dd_M_feed_81 : decode c_M_feed 81 = .ok (.istore 8, 2) := by decide +kernel
theorem dd_M_feed_83 : decode c_M_feed 83 = .ok (.iload 8, 2) := by decide +kernel
theorem dd_M_feed_85 : decode c_M_feed 85 = .ok (.ifCond .eq 24, 3) := by decide +kernel
theorem dd_M_feed_88 : decode c_M_feed 88 = .ok (.aload_n 0, 1) := by decide +kernel
theorem dd_M_feed_89 : decode c_M_feed 89 = .ok (.getfield 9, 3) := by decide +kernel
theorem dd_M_feed_92 : decode c_M_feed 92 = .ok (.aload_n 0, 1) := by decide +kernel
theorem dd_M_feed_93 : decode c_M_feed 93 = .ok (.getfield 97, 3) := by decide +kernel
theorem dd_M_feed_96 : decode c_M_feed 96 = .ok (.iload 8, 2) := by decide +kernel
theorem dd_M_feed_98 : decode c_M_feed 98 = .ok (.iastore, 1) := by decide +kernel
theorem dd_M_feed_99 : decode c_M_feed 99 = .ok (.aload_n 0, 1) := by decide +kernel
theorem dd_M_feed_100 : decode c_M_feed 100 = .ok (.dup, 1) := by decide +kernel
theorem dd_M_feed_101 : decode c_M_feed 101 = .ok (.getfield 97, 3) := by decide +kernel
theorem dd_M_feed_104 : decode c_M_feed 104 = .ok (.iconst 1, 1) := by decide +kernel
theorem dd_M_feed_105 : decode c_M_feed 105 = .ok (.iadd, 1) := by decide +kernel
theorem dd_M_feed_106 : decode c_M_feed 106 = .ok (.putfield 97, 3) := by decide +kernel
theorem dd_M_feed_109 : decode c_M_feed 109 = .ok (.iinc 7 1, 3) := by decide +kernel
theorem dd_M_feed_112 : decode c_M_feed 112 = .ok (.goto (-50), 3) := by decide +kernel
theorem dd_M_feed_115 : decode c_M_feed 115 = .ok (.aload_n 0, 1) := by decide +kernel
theorem dd_M_feed_116 : decode c_M_feed 116 = .ok (.getfield 97, 3) := by decide +kernel
theorem dd_M_feed_119 : decode c_M_feed 119 = .ok (.ireturn, 1) := by decide +kernel
theorem dd_W_end_0 : decode c_W_end 0 = .ok (.iload_n 1, 1) := by decide +kernel
theorem dd_W_end_1 : decode c_W_end 1 = .ok (.ifCond .lt 14, 3) := by decide +kernel
theorem dd_W_end_4 : decode c_W_end 4 = .ok (.iload_n 1, 1) := by decide +kernel
theorem dd_W_end_5 : decode c_W_end 5 = .ok (.aload_n 0, 1) := by decide +kernel
theorem dd_W_end_6 : decode c_W_end 6 = .ok (.getfield 12, 3) := by decide +kernel
theorem dd_W_end_9 : decode c_W_end 9 = .ok (.getfield 106, 3) := by decide +kernel
theorem dd_W_end_12 : decode c_W_end 12 = .ok (.if_icmp .le 5, 3) := by decide +kernel
theorem dd_W_end_15 : decode c_W_end 15 = .ok (.iconst 0, 1) := by decide +kernel
theorem dd_W_end_16 : decode c_W_end 16 = .ok (.ireturn, 1) := by decide +kernel
theorem dd_W_end_17 : decode c_W_end 17 = .ok (.aload_n 0, 1) := by decide +kernel
theorem dd_W_end_18 : decode c_W_end 18 = .ok (.getfield 12, 3) := by decide +kernel
theorem dd_W_end_21 : decode c_W_end 21 = .ok (.iload_n 1, 1) := by decide +kernel
theorem dd_W_end_22 : decode c_W_end 22 = .ok (.putfield 106, 3) := by decide +kernel
theorem dd_W_end_25 : decode c_W_end 25 = .ok (.iconst 1, 1) := by decide +kernel
theorem dd_W_end_26 : decode c_W_end 26 = .ok (.ireturn, 1) := by decide +kernel
theorem dd_M_end_0 : decode c_M_end 0 = .ok (.iload_n 1, 1) := by decide +kernel
theorem dd_M_end_1 : decode c_M_end 1 = .ok (.ifCond .lt 11, 3) := by decide +kernel
theorem dd_M_end_4 : decode c_M_end 4 = .ok (.iload_n 1, 1) := by decide +kernel
theorem dd_M_end_5 : decode c_M_end 5 = .ok (.aload_n 0, 1) := by decide +kernel
theorem dd_M_end_6 : decode c_M_end 6 = .ok (.getfield 97, 3) := by decide +kernel
theorem dd_M_end_9 : decode c_M_end 9 = .ok (.if_icmp .le 5, 3) := by decide +kernel
theorem dd_M_end_12 : decode c_M_end 12 = .ok (.iconst 0, 1) := by decide +kernel
theorem dd_M_end_13 : decode c_M_end 13 = .ok (.ireturn, 1) := by decide +kernel
theorem dd_M_end_14 : decode c_M_end 14 = .ok (.aload_n 0, 1) := by decide +kernel
theorem dd_M_end_15 : decode c_M_end 15 = .ok (.iload_n 1, 1) := by decide +kernel
theorem dd_M_end_16 : decode c_M_end 16 = .ok (.putfield 97, 3) := by decide +kernel
theorem dd_M_end_19 : decode c_M_end 19 = .ok (.iconst 1, 1) := by decide +kernel
theorem dd_M_end_20 : decode c_M_end 20 = .ok (.ireturn, 1) := by decide +kernel
theorem dd_Tape_rewind_0 : decode c_Tape_rewind 0 = .ok (.aload_n 0, 1) := by decide +kernel
theorem dd_Tape_rewind_1 : decode c_Tape_rewind 1 = .ok (.iconst 0, 1) := by decide +kernel
theorem dd_Tape_rewind_2 : decode c_Tape_rewind 2 = .ok (.putfield 19, 3) := by decide +kernel
theorem dd_Tape_rewind_5 : decode c_Tape_rewind 5 = .ok (.aload_n 0, 1) := by decide +kernel
theorem dd_Tape_rewind_6 : decode c_Tape_rewind 6 = .ok (.iconst (-1), 1) := by decide +kernel
theorem dd_Tape_rewind_7 : decode c_Tape_rewind 7 = .ok (.putfield 22, 3) := by decide +kernel
theorem dd_Tape_rewind_10 : decode c_Tape_rewind 10 = .ok (.return_, 1) := by decide +kernel
theorem dd_Tape_skipBlanks_0 : decode c_Tape_skipBlanks 0 = .ok (.aload_n 0, 1) := by decide +kernel
theorem dd_Tape_skipBlanks_1 : decode c_Tape_skipBlanks 1 = .ok (.getfield 19, 3) := by decide +kernel
theorem dd_Tape_skipBlanks_4 : decode c_Tape_skipBlanks 4 = .ok (.aload_n 0, 1) := by decide +kernel
theorem dd_Tape_skipBlanks_5 : decode c_Tape_skipBlanks 5 = .ok (.getfield 15, 3) := by decide +kernel
theorem dd_Tape_skipBlanks_8 : decode c_Tape_skipBlanks 8 = .ok (.if_icmp .ge 30, 3) := by decide +kernel
theorem dd_Tape_skipBlanks_11 : decode c_Tape_skipBlanks 11 = .ok (.aload_n 0, 1) := by decide +kernel
theorem dd_Tape_skipBlanks_12 : decode c_Tape_skipBlanks 12 = .ok (.getfield 11, 3) := by decide +kernel
theorem dd_Tape_skipBlanks_15 : decode c_Tape_skipBlanks 15 = .ok (.aload_n 0, 1) := by decide +kernel
theorem dd_Tape_skipBlanks_16 : decode c_Tape_skipBlanks 16 = .ok (.getfield 19, 3) := by decide +kernel
theorem dd_Tape_skipBlanks_19 : decode c_Tape_skipBlanks 19 = .ok (.iaload, 1) := by decide +kernel
theorem dd_Tape_skipBlanks_20 : decode c_Tape_skipBlanks 20 = .ok (.bipush 32, 2) := by decide +kernel
theorem dd_Tape_skipBlanks_22 : decode c_Tape_skipBlanks 22 = .ok (.if_icmp .ne 16, 3) := by decide +kernel
theorem dd_Tape_skipBlanks_25 : decode c_Tape_skipBlanks 25 = .ok (.aload_n 0, 1) := by decide +kernel
theorem dd_Tape_skipBlanks_26 : decode c_Tape_skipBlanks 26 = .ok (.dup, 1) := by decide +kernel
theorem dd_Tape_skipBlanks_27 : decode c_Tape_skipBlanks 27 = .ok (.getfield 19, 3) := by decide +kernel
theorem dd_Tape_skipBlanks_30 : decode c_Tape_skipBlanks 30 = .ok (.iconst 1, 1) := by decide +kernel
theorem dd_Tape_skipBlanks_31 : decode c_Tape_skipBlanks 31 = .ok (.iadd, 1) := by decide +kernel
theorem dd_Tape_skipBlanks_32 : decode c_Tape_skipBlanks 32 = .ok (.putfield 19, 3) := by decide +kernel
theorem dd_Tape_skipBlanks_35 : decode c_Tape_skipBlanks 35 = .ok (.goto (-35), 3) := by decide +kernel
theorem dd_Tape_skipBlanks_38 : decode c_Tape_skipBlanks 38 = .ok (.return_, 1) := by decide +kernel
theorem dd_Tape_peek_0 : decode c_Tape_peek 0 = .ok (.aload_n 0, 1) := by decide +kernel
theorem dd_Tape_peek_1 : decode c_Tape_peek 1 = .ok (.getfield 22, 3) := by decide +kernel
theorem dd_Tape_peek_4 : decode c_Tape_peek 4 = .ok (.iconst (-1), 1) := by decide +kernel
theorem dd_Tape_peek_5 : decode c_Tape_peek 5 = .ok (.if_icmp .eq 5, 3) := by decide +kernel
theorem dd_Tape_peek_8 : decode c_Tape_peek 8 = .ok (.iconst 0, 1) := by decide +kernel
theorem dd_Tape_peek_9 : decode c_Tape_peek 9 = .ok (.ireturn, 1) := by decide +kernel
theorem dd_Tape_peek_10 : decode c_Tape_peek 10 = .ok (.aload_n 0, 1) := by decide +kernel
theorem dd_Tape_peek_11 : decode c_Tape_peek 11 = .ok (.invokevirtual 25, 3) := by decide +kernel
theorem dd_Tape_peek_14 : decode c_Tape_peek 14 = .ok (.aload_n 0, 1) := by decide +kernel
theorem dd_Tape_peek_15 : decode c_Tape_peek 15 = .ok (.getfield 19, 3) := by decide +kernel
theorem dd_Tape_peek_18 : decode c_Tape_peek 18 = .ok (.aload_n 0, 1) := by decide +kernel
theorem dd_Tape_peek_19 : decode c_Tape_peek 19 = .ok (.getfield 15, 3) := by decide +kernel
theorem dd_Tape_peek_22 : decode c_Tape_peek 22 = .ok (.if_icmp .ge 15, 3) := by decide +kernel
theorem dd_Tape_peek_25 : decode c_Tape_peek 25 = .ok (.aload_n 0, 1) := by decide +kernel
theorem dd_Tape_peek_26 : decode c_Tape_peek 26 = .ok (.getfield 11, 3) := by decide +kernel
theorem dd_Tape_peek_29 : decode c_Tape_peek 29 = .ok (.aload_n 0, 1) := by decide +kernel
theorem dd_Tape_peek_30 : decode c_Tape_peek 30 = .ok (.getfield 19, 3) := by decide +kernel
theorem dd_Tape_peek_33 : decode c_Tape_peek 33 = .ok (.iaload, 1) := by decide +kernel
theorem dd_Tape_peek_34 : decode c_Tape_peek 34 = .ok (.goto 4, 3) := by decide +kernel
theorem dd_Tape_peek_37 : decode c_Tape_peek 37 = .ok (.iconst 0, 1) := by decide +kernel
theorem dd_Tape_peek_38 : decode c_Tape_peek 38 = .ok (.ireturn, 1) := by decide +kernel
theorem dd_Tape_fail_0 : decode c_Tape_fail 0 = .ok (.aload_n 0, 1) := by decide +kernel
theorem dd_Tape_fail_1 : decode c_Tape_fail 1 = .ok (.getfield 22, 3) := by decide +kernel
theorem dd_Tape_fail_4 : decode c_Tape_fail 4 = .ok (.iconst (-1), 1) := by decide +kernel
theorem dd_Tape_fail_5 : decode c_Tape_fail 5 = .ok (.if_icmp .ne 8, 3) := by decide +kernel
theorem dd_Tape_fail_8 : decode c_Tape_fail 8 = .ok (.aload_n 0, 1) := by decide +kernel
theorem dd_Tape_fail_9 : decode c_Tape_fail 9 = .ok (.iload_n 1, 1) := by decide +kernel
theorem dd_Tape_fail_10 : decode c_Tape_fail 10 = .ok (.putfield 22, 3) := by decide +kernel
theorem dd_Tape_fail_13 : decode c_Tape_fail 13 = .ok (.return_, 1) := by decide +kernel
theorem dd_Tape_demand_0 : decode c_Tape_demand 0 = .ok (.aload_n 0, 1) := by decide +kernel
theorem dd_Tape_demand_1 : decode c_Tape_demand 1 = .ok (.invokevirtual 28, 3) := by decide +kernel
theorem dd_Tape_demand_4 : decode c_Tape_demand 4 = .ok (.iload_n 1, 1) := by decide +kernel
theorem dd_Tape_demand_5 : decode c_Tape_demand 5 = .ok (.if_icmp .ne 16, 3) := by decide +kernel
theorem dd_Tape_demand_8 : decode c_Tape_demand 8 = .ok (.aload_n 0, 1) := by decide +kernel
theorem dd_Tape_demand_9 : decode c_Tape_demand 9 = .ok (.dup, 1) := by decide +kernel
theorem dd_Tape_demand_10 : decode c_Tape_demand 10 = .ok (.getfield 19, 3) := by decide +kernel
theorem dd_Tape_demand_13 : decode c_Tape_demand 13 = .ok (.iconst 1, 1) := by decide +kernel
theorem dd_Tape_demand_14 : decode c_Tape_demand 14 = .ok (.iadd, 1) := by decide +kernel
theorem dd_Tape_demand_15 : decode c_Tape_demand 15 = .ok (.putfield 19, 3) := by decide +kernel
theorem dd_Tape_demand_18 : decode c_Tape_demand 18 = .ok (.goto 11, 3) := by decide +kernel
theorem dd_Tape_demand_21 : decode c_Tape_demand 21 = .ok (.aload_n 0, 1) := by decide +kernel
theorem dd_Tape_demand_22 : decode c_Tape_demand 22 = .ok (.aload_n 0, 1) := by decide +kernel
theorem dd_Tape_demand_23 : decode c_Tape_demand 23 = .ok (.getfield 19, 3) := by decide +kernel
theorem dd_Tape_demand_26 : decode c_Tape_demand 26 = .ok (.invokevirtual 32, 3) := by decide +kernel
theorem dd_Tape_demand_29 : decode c_Tape_demand 29 = .ok (.return_, 1) := by decide +kernel
theorem dd_Tape_atDigit_0 : decode c_Tape_atDigit 0 = .ok (.aload_n 0, 1) := by decide +kernel
theorem dd_Tape_atDigit_1 : decode c_Tape_atDigit 1 = .ok (.getfield 19, 3) := by decide +kernel
theorem dd_Tape_atDigit_4 : decode c_Tape_atDigit 4 = .ok (.aload_n 0, 1) := by decide +kernel
theorem dd_Tape_atDigit_5 : decode c_Tape_atDigit 5 = .ok (.getfield 15, 3) := by decide +kernel
theorem dd_Tape_atDigit_8 : decode c_Tape_atDigit 8 = .ok (.if_icmp .ge 35, 3) := by decide +kernel
theorem dd_Tape_atDigit_11 : decode c_Tape_atDigit 11 = .ok (.aload_n 0, 1) := by decide +kernel
theorem dd_Tape_atDigit_12 : decode c_Tape_atDigit 12 = .ok (.getfield 11, 3) := by decide +kernel
theorem dd_Tape_atDigit_15 : decode c_Tape_atDigit 15 = .ok (.aload_n 0, 1) := by decide +kernel
theorem dd_Tape_atDigit_16 : decode c_Tape_atDigit 16 = .ok (.getfield 19, 3) := by decide +kernel
theorem dd_Tape_atDigit_19 : decode c_Tape_atDigit 19 = .ok (.iaload, 1) := by decide +kernel
theorem dd_Tape_atDigit_20 : decode c_Tape_atDigit 20 = .ok (.bipush 48, 2) := by decide +kernel
theorem dd_Tape_atDigit_22 : decode c_Tape_atDigit 22 = .ok (.if_icmp .lt 21, 3) := by decide +kernel
theorem dd_Tape_atDigit_25 : decode c_Tape_atDigit 25 = .ok (.aload_n 0, 1) := by decide +kernel
theorem dd_Tape_atDigit_26 : decode c_Tape_atDigit 26 = .ok (.getfield 11, 3) := by decide +kernel
theorem dd_Tape_atDigit_29 : decode c_Tape_atDigit 29 = .ok (.aload_n 0, 1) := by decide +kernel
theorem dd_Tape_atDigit_30 : decode c_Tape_atDigit 30 = .ok (.getfield 19, 3) := by decide +kernel
theorem dd_Tape_atDigit_33 : decode c_Tape_atDigit 33 = .ok (.iaload, 1) := by decide +kernel
theorem dd_Tape_atDigit_34 : decode c_Tape_atDigit 34 = .ok (.bipush 57, 2) := by decide +kernel
theorem dd_Tape_atDigit_36 : decode c_Tape_atDigit 36 = .ok (.if_icmp .gt 7, 3) := by decide +kernel
theorem dd_Tape_atDigit_39 : decode c_Tape_atDigit 39 = .ok (.iconst 1, 1) := by decide +kernel
theorem dd_Tape_atDigit_40 : decode c_Tape_atDigit 40 = .ok (.goto 4, 3) := by decide +kernel
theorem dd_Tape_atDigit_43 : decode c_Tape_atDigit 43 = .ok (.iconst 0, 1) := by decide +kernel
theorem dd_Tape_atDigit_44 : decode c_Tape_atDigit 44 = .ok (.ireturn, 1) := by decide +kernel
theorem dd_Tape_number_0 : decode c_Tape_number 0 = .ok (.iconst 0, 1) := by decide +kernel
theorem dd_Tape_number_1 : decode c_Tape_number 1 = .ok (.istore 4, 2) := by decide +kernel
theorem dd_Tape_number_3 : decode c_Tape_number 3 = .ok (.iconst 0, 1) := by decide +kernel
theorem dd_Tape_number_4 : decode c_Tape_number 4 = .ok (.istore 5, 2) := by decide +kernel
theorem dd_Tape_number_6 : decode c_Tape_number 6 = .ok (.aload_n 0, 1) := by decide +kernel
theorem dd_Tape_number_7 : decode c_Tape_number 7 = .ok (.invokevirtual 25, 3) := by decide +kernel
theorem dd_Tape_number_10 : decode c_Tape_number 10 = .ok (.iload 5, 2) := by decide +kernel
theorem dd_Tape_number_12 : decode c_Tape_number 12 = .ok (.iload_n 1, 1) := by decide +kernel
theorem dd_Tape_number_13 : decode c_Tape_number 13 = .ok (.if_icmp .ge 46, 3) := by decide +kernel
theorem dd_Tape_number_16 : decode c_Tape_number 16 = .ok (.aload_n 0, 1) := by decide +kernel
theorem dd_Tape_number_17 : decode c_Tape_number 17 = .ok (.invokevirtual 36, 3) := by decide +kernel
theorem dd_Tape_number_20 : decode c_Tape_number 20 = .ok (.ifCond .eq 39, 3) := by decide +kernel
theorem dd_Tape_number_23 : decode c_Tape_number 23 = .ok (.iload 4, 2) := by decide +kernel
theorem dd_Tape_number_25 : decode c_Tape_number 25 = .ok (.bipush 10, 2) := by decide +kernel
theorem dd_Tape_number_27 : decode c_Tape_number 27 = .ok (.imul, 1) := by decide +kernel
theorem dd_Tape_number_28 : decode c_Tape_number 28 = .ok (.aload_n 0, 1) := by decide +kernel
theorem dd_Tape_number_29 : decode c_Tape_number 29 = .ok (.getfield 11, 3) := by decide +kernel
theorem dd_Tape_number_32 : decode c_Tape_number 32 = .ok (.aload_n 0, 1) := by decide +kernel
theorem dd_Tape_number_33 : decode c_Tape_number 33 = .ok (.getfield 19, 3) := by decide +kernel
theorem dd_Tape_number_36 : decode c_Tape_number 36 = .ok (.iaload, 1) := by decide +kernel
theorem dd_Tape_number_37 : decode c_Tape_number 37 = .ok (.iadd, 1) := by decide +kernel
theorem dd_Tape_number_38 : decode c_Tape_number 38 = .ok (.bipush 48, 2) := by decide +kernel
theorem dd_Tape_number_40 : decode c_Tape_number 40 = .ok (.isub, 1) := by decide +kernel
theorem dd_Tape_number_41 : decode c_Tape_number 41 = .ok (.istore 4, 2) := by decide +kernel
theorem dd_Tape_number_43 : decode c_Tape_number 43 = .ok (.aload_n 0, 1) := by decide +kernel
theorem dd_Tape_number_44 : decode c_Tape_number 44 = .ok (.dup, 1) := by decide +kernel
theorem dd_Tape_number_45 : decode c_Tape_number 45 = .ok (.getfield 19, 3) := by decide +kernel
theorem dd_Tape_number_48 : decode c_Tape_number 48 = .ok (.iconst 1, 1) := by decide +kernel
theorem dd_Tape_number_49 : decode c_Tape_number 49 = .ok (.iadd, 1) := by decide +kernel
theorem dd_Tape_number_50 : decode c_Tape_number 50 = .ok (.putfield 19, 3) := by decide +kernel
theorem dd_Tape_number_53 : decode c_Tape_number 53 = .ok (.iinc 5 1, 3) := by decide +kernel
theorem dd_Tape_number_56 : decode c_Tape_number 56 = .ok (.goto (-46), 3) := by decide +kernel
theorem dd_Tape_number_59 : decode c_Tape_number 59 = .ok (.iload 5, 2) := by decide +kernel
theorem dd_Tape_number_61 : decode c_Tape_number 61 = .ok (.ifCond .eq 10, 3) := by decide +kernel
theorem dd_Tape_number_64 : decode c_Tape_number 64 = .ok (.aload_n 0, 1) := by decide +kernel
theorem dd_Tape_number_65 : decode c_Tape_number 65 = .ok (.invokevirtual 36, 3) := by decide +kernel
theorem dd_Tape_number_68 : decode c_Tape_number 68 = .ok (.ifCond .eq 14, 3) := by decide +kernel
theorem dd_Tape_number_71 : decode c_Tape_number 71 = .ok (.aload_n 0, 1) := by decide +kernel
theorem dd_Tape_number_72 : decode c_Tape_number 72 = .ok (.aload_n 0, 1) := by decide +kernel
theorem dd_Tape_number_73 : decode c_Tape_number 73 = .ok (.getfield 19, 3) := by decide +kernel
theorem dd_Tape_number_76 : decode c_Tape_number 76 = .ok (.invokevirtual 32, 3) := by decide +kernel
theorem dd_Tape_number_79 : decode c_Tape_number 79 = .ok (.goto 25, 3) := by decide +kernel
theorem dd_Tape_number_82 : decode c_Tape_number 82 = .ok (.iload 4, 2) := by decide +kernel
theorem dd_Tape_number_84 : decode c_Tape_number 84 = .ok (.iload_n 2, 1) := by decide +kernel
theorem dd_Tape_number_85 : decode c_Tape_number 85 = .ok (.if_icmp .lt 9, 3) := by decide +kernel
theorem dd_Tape_number_88 : decode c_Tape_number 88 = .ok (.iload 4, 2) := by decide +kernel
theorem dd_Tape_number_90 : decode c_Tape_number 90 = .ok (.iload_n 3, 1) := by decide +kernel
theorem dd_Tape_number_91 : decode c_Tape_number 91 = .ok (.if_icmp .le 13, 3) := by decide +kernel
theorem dd_Tape_number_94 : decode c_Tape_number 94 = .ok (.aload_n 0, 1) := by decide +kernel
theorem dd_Tape_number_95 : decode c_Tape_number 95 = .ok (.aload_n 0, 1) := by decide +kernel
theorem dd_Tape_number_96 : decode c_Tape_number 96 = .ok (.getfield 19, 3) := by decide +kernel
theorem dd_Tape_number_99 : decode c_Tape_number 99 = .ok (.iconst 1, 1) := by decide +kernel
theorem dd_Tape_number_100 : decode c_Tape_number 100 = .ok (.isub, 1) := by decide +kernel
theorem dd_Tape_number_101 : decode c_Tape_number 101 = .ok (.invokevirtual 32, 3) := by decide +kernel
theorem dd_Tape_number_104 : decode c_Tape_number 104 = .ok (.iload 4, 2) := by decide +kernel
theorem dd_Tape_number_106 : decode c_Tape_number 106 = .ok (.ireturn, 1) := by decide +kernel
theorem dd_LawReader_write_0 : decode c_LawReader_write 0 = .ok (.aload_n 0, 1) := by decide +kernel
theorem dd_LawReader_write_1 : decode c_LawReader_write 1 = .ok (.getfield 22, 3) := by decide +kernel
theorem dd_LawReader_write_4 : decode c_LawReader_write 4 = .ok (.aload_n 0, 1) := by decide +kernel
theorem dd_LawReader_write_5 : decode c_LawReader_write 5 = .ok (.getfield 9, 3) := by decide +kernel
theorem dd_LawReader_write_8 : decode c_LawReader_write 8 = .ok (.arraylength, 1) := by decide +kernel
theorem dd_LawReader_write_9 : decode c_LawReader_write 9 = .ok (.if_icmp .ge 28, 3) := by decide +kernel
theorem dd_LawReader_write_12 : decode c_LawReader_write 12 = .ok (.aload_n 0, 1) := by decide +kernel
theorem dd_LawReader_write_13 : decode c_LawReader_write 13 = .ok (.getfield 9, 3) := by decide +kernel
theorem dd_LawReader_write_16 : decode c_LawReader_write 16 = .ok (.aload_n 0, 1) := by decide +kernel
theorem dd_LawReader_write_17 : decode c_LawReader_write 17 = .ok (.getfield 22, 3) := by decide +kernel
theorem dd_LawReader_write_20 : decode c_LawReader_write 20 = .ok (.iload_n 2, 1) := by decide +kernel
theorem dd_LawReader_write_21 : decode c_LawReader_write 21 = .ok (.bipush 7, 2) := by decide +kernel
theorem dd_LawReader_write_23 : decode c_LawReader_write 23 = .ok (.ishl, 1) := by decide +kernel
theorem dd_LawReader_write_24 : decode c_LawReader_write 24 = .ok (.iload_n 1, 1) := by decide +kernel
theorem dd_LawReader_write_25 : decode c_LawReader_write 25 = .ok (.ior, 1) := by decide +kernel
theorem dd_LawReader_write_26 : decode c_LawReader_write 26 = .ok (.iastore, 1) := by decide +kernel
theorem dd_LawReader_write_27 : decode c_LawReader_write 27 = .ok (.aload_n 0, 1) := by decide +kernel
theorem dd_LawReader_write_28 : decode c_LawReader_write 28 = .ok (.dup, 1) := by decide +kernel
theorem dd_LawReader_write_29 : decode c_LawReader_write 29 = .ok (.getfield 22, 3) := by decide +kernel
theorem dd_LawReader_write_32 : decode c_LawReader_write 32 = .ok (.iconst 1, 1) := by decide +kernel
theorem dd_LawReader_write_33 : decode c_LawReader_write 33 = .ok (.iadd, 1) := by decide +kernel
theorem dd_LawReader_write_34 : decode c_LawReader_write 34 = .ok (.putfield 22, 3) := by decide +kernel
theorem dd_LawReader_write_37 : decode c_LawReader_write 37 = .ok (.return_, 1) := by decide +kernel
theorem dd_LawReader_readLetter_0 : decode c_LawReader_readLetter 0 = .ok (.iconst 0, 1) := by decide +kernel
theorem dd_LawReader_readLetter_1 : decode c_LawReader_readLetter 1 = .ok (.istore_n 2, 1) := by decide +kernel
theorem dd_LawReader_readLetter_2 : decode c_LawReader_readLetter 2 = .ok (.iload_n 2, 1) := by decide +kernel
theorem dd_LawReader_readLetter_3 : decode c_LawReader_readLetter 3 = .ok (.getstatic 89, 3) := by decide +kernel
theorem dd_LawReader_readLetter_6 : decode c_LawReader_readLetter 6 = .ok (.arraylength, 1) := by decide +kernel
theorem dd_LawReader_readLetter_7 : decode c_LawReader_readLetter 7 = .ok (.if_icmp .ge 39, 3) := by decide +kernel
theorem dd_LawReader_readLetter_10 : decode c_LawReader_readLetter 10 = .ok (.getstatic 89, 3) := by decide +kernel
theorem dd_LawReader_readLetter_13 : decode c_LawReader_readLetter 13 = .ok (.iload_n 2, 1) := by decide +kernel
theorem dd_LawReader_readLetter_14 : decode c_LawReader_readLetter 14 = .ok (.caload, 1) := by decide +kernel
theorem dd_LawReader_readLetter_15 : decode c_LawReader_readLetter 15 = .ok (.iload_n 1, 1) := by decide +kernel
theorem dd_LawReader_readLetter_16 : decode c_LawReader_readLetter 16 = .ok (.if_icmp .ne 24, 3) := by decide +kernel
theorem dd_LawReader_readLetter_19 : decode c_LawReader_readLetter 19 = .ok (.aload_n 0, 1) := by decide +kernel
theorem dd_LawReader_readLetter_20 : decode c_LawReader_readLetter 20 = .ok (.getfield 15, 3) := by decide +kernel
theorem dd_LawReader_readLetter_23 : decode c_LawReader_readLetter 23 = .ok (.dup, 1) := by decide +kernel
theorem dd_LawReader_readLetter_24 : decode c_LawReader_readLetter 24 = .ok (.getfield 70, 3) := by decide +kernel
theorem dd_LawReader_readLetter_27 : decode c_LawReader_readLetter 27 = .ok (.iconst 1, 1) := by decide +kernel
theorem dd_LawReader_readLetter_28 : decode c_LawReader_readLetter 28 = .ok (.iadd, 1) := by decide +kernel
theorem dd_LawReader_readLetter_29 : decode c_LawReader_readLetter 29 = .ok (.putfield 70, 3) := by decide +kernel
theorem dd_LawReader_readLetter_32 : decode c_LawReader_readLetter 32 = .ok (.aload_n 0, 1) := by decide +kernel
theorem dd_LawReader_readLetter_33 : decode c_LawReader_readLetter 33 = .ok (.bipush 108, 2) := by decide +kernel
theorem dd_LawReader_readLetter_35 : decode c_LawReader_readLetter 35 = .ok (.iload_n 2, 1) := by decide +kernel
theorem dd_LawReader_readLetter_36 : decode c_LawReader_readLetter 36 = .ok (.invokevirtual 57, 3) := by decide +kernel
theorem dd_LawReader_readLetter_39 : decode c_LawReader_readLetter 39 = .ok (.return_, 1) := by decide +kernel
theorem dd_LawReader_readLetter_40 : decode c_LawReader_readLetter 40 = .ok (.iinc 2 1, 3) := by decide +kernel
theorem dd_LawReader_readLetter_43 : decode c_LawReader_readLetter 43 = .ok (.goto (-41), 3) := by decide +kernel
theorem dd_LawReader_readLetter_46 : decode c_LawReader_readLetter 46 = .ok (.aload_n 0, 1) := by decide +kernel
theorem dd_LawReader_readLetter_47 : decode c_LawReader_readLetter 47 = .ok (.getfield 15, 3) := by decide +kernel
theorem dd_LawReader_readLetter_50 : decode c_LawReader_readLetter 50 = .ok (.aload_n 0, 1) := by decide +kernel
theorem dd_LawReader_readLetter_51 : decode c_LawReader_readLetter 51 = .ok (.getfield 15, 3) := by decide +kernel
theorem dd_LawReader_readLetter_54 : decode c_LawReader_readLetter 54 = .ok (.getfield 70, 3) := by decide +kernel
theorem dd_LawReader_readLetter_57 : decode c_LawReader_readLetter 57 = .ok (.invokevirtual 73, 3) := by decide +kernel
theorem dd_LawReader_readLetter_60 : decode c_LawReader_readLetter 60 = .ok (.return_, 1) := by decide +kernel
theorem dd_LawReader_goesDeeper_0 : decode c_LawReader_goesDeeper 0 = .ok (.iload_n 1, 1) := by decide +kernel
theorem dd_LawReader_goesDeeper_1 : decode c_LawReader_goesDeeper 1 = .ok (.bipush 6, 2) := by decide +kernel
theorem dd_LawReader_goesDeeper_3 : decode c_LawReader_goesDeeper 3 = .ok (.if_icmp .lt 19, 3) := by decide +kernel
theorem dd_LawReader_goesDeeper_6 : decode c_LawReader_goesDeeper 6 = .ok (.aload_n 0, 1) := by decide +kernel
theorem dd_LawReader_goesDeeper_7 : decode c_LawReader_goesDeeper 7 = .ok (.getfield 15, 3) := by decide +kernel
theorem dd_LawReader_goesDeeper_10 : decode c_LawReader_goesDeeper 10 = .ok (.aload_n 0, 1) := by decide +kernel
theorem dd_LawReader_goesDeeper_11 : decode c_LawReader_goesDeeper 11 = .ok (.getfield 15, 3) := by decide +kernel
theorem dd_LawReader_goesDeeper_14 : decode c_LawReader_goesDeeper 14 = .ok (.getfield 70, 3) := by decide +kernel
theorem dd_LawReader_goesDeeper_17 : decode c_LawReader_goesDeeper 17 = .ok (.invokevirtual 73, 3) := by decide +kernel
theorem dd_LawReader_goesDeeper_20 : decode c_LawReader_goesDeeper 20 = .ok (.iconst 0, 1) := by decide +kernel
theorem dd_LawReader_goesDeeper_21 : decode c_LawReader_goesDeeper 21 = .ok (.ireturn, 1) := by decide +kernel
theorem dd_LawReader_goesDeeper_22 : decode c_LawReader_goesDeeper 22 = .ok (.aload_n 0, 1) := by decide +kernel
theorem dd_LawReader_goesDeeper_23 : decode c_LawReader_goesDeeper 23 = .ok (.getfield 15, 3) := by decide +kernel
theorem dd_LawReader_goesDeeper_26 : decode c_LawReader_goesDeeper 26 = .ok (.dup, 1) := by decide +kernel
theorem dd_LawReader_goesDeeper_27 : decode c_LawReader_goesDeeper 27 = .ok (.getfield 70, 3) := by decide +kernel
theorem dd_LawReader_goesDeeper_30 : decode c_LawReader_goesDeeper 30 = .ok (.iconst 1, 1) := by decide +kernel
theorem dd_LawReader_goesDeeper_31 : decode c_LawReader_goesDeeper 31 = .ok (.iadd, 1) := by decide +kernel
theorem dd_LawReader_goesDeeper_32 : decode c_LawReader_goesDeeper 32 = .ok (.putfield 70, 3) := by decide +kernel
theorem dd_LawReader_goesDeeper_35 : decode c_LawReader_goesDeeper 35 = .ok (.iconst 1, 1) := by decide +kernel
theorem dd_LawReader_goesDeeper_36 : decode c_LawReader_goesDeeper 36 = .ok (.ireturn, 1) := by decide +kernel
theorem dd_LawReader_readAtom_0 : decode c_LawReader_readAtom 0 = .ok (.aload_n 0, 1) := by decide +kernel
theorem dd_LawReader_readAtom_1 : decode c_LawReader_readAtom 1 = .ok (.getfield 15, 3) := by decide +kernel
theorem dd_LawReader_readAtom_4 : decode c_LawReader_readAtom 4 = .ok (.invokevirtual 43, 3) := by decide +kernel
theorem dd_LawReader_readAtom_7 : decode c_LawReader_readAtom 7 = .ok (.istore_n 2, 1) := by decide +kernel
theorem dd_LawReader_readAtom_8 : decode c_LawReader_readAtom 8 = .ok (.iload_n 2, 1) := by decide +kernel
theorem dd_LawReader_readAtom_9 : decode c_LawReader_readAtom 9 = .ok (.bipush 48, 2) := by decide +kernel
theorem dd_LawReader_readAtom_11 : decode c_LawReader_readAtom 11 = .ok (.if_icmp .lt 30, 3) := by decide +kernel
theorem dd_LawReader_readAtom_14 : decode c_LawReader_readAtom 14 = .ok (.iload_n 2, 1) := by decide +kernel
theorem dd_LawReader_readAtom_15 : decode c_LawReader_readAtom 15 = .ok (.bipush 57, 2) := by decide +kernel
theorem dd_LawReader_readAtom_17 : decode c_LawReader_readAtom 17 = .ok (.if_icmp .gt 24, 3) := by decide +kernel
theorem dd_LawReader_readAtom_20 : decode c_LawReader_readAtom 20 = .ok (.aload_n 0, 1) := by decide +kernel
theorem dd_LawReader_readAtom_21 : decode c_LawReader_readAtom 21 = .ok (.bipush 48, 2) := by decide +kernel
theorem dd_LawReader_readAtom_23 : decode c_LawReader_readAtom 23 = .ok (.aload_n 0, 1) := by decide +kernel
theorem dd_LawReader_readAtom_24 : decode c_LawReader_readAtom 24 = .ok (.getfield 15, 3) := by decide +kernel
theorem dd_LawReader_readAtom_27 : decode c_LawReader_readAtom 27 = .ok (.iconst 4, 1) := by decide +kernel
theorem dd_LawReader_readAtom_28 : decode c_LawReader_readAtom 28 = .ok (.iconst 0, 1) := by decide +kernel
theorem dd_LawReader_readAtom_29 : decode c_LawReader_readAtom 29 = .ok (.sipush 9999, 3) := by decide +kernel
theorem dd_LawReader_readAtom_32 : decode c_LawReader_readAtom 32 = .ok (.invokevirtual 82, 3) := by decide +kernel
theorem dd_LawReader_readAtom_35 : decode c_LawReader_readAtom 35 = .ok (.invokevirtual 57, 3) := by decide +kernel
theorem dd_LawReader_readAtom_38 : decode c_LawReader_readAtom 38 = .ok (.goto 41, 3) := by decide +kernel
theorem dd_LawReader_readAtom_41 : decode c_LawReader_readAtom 41 = .ok (.iload_n 2, 1) := by decide +kernel
theorem dd_LawReader_readAtom_42 : decode c_LawReader_readAtom 42 = .ok (.bipush 91, 2) := by decide +kernel
theorem dd_LawReader_readAtom_44 : decode c_LawReader_readAtom 44 = .ok (.if_icmp .ne 30, 3) := by decide +kernel
theorem dd_LawReader_readAtom_47 : decode c_LawReader_readAtom 47 = .ok (.aload_n 0, 1) := by decide +kernel
theorem dd_LawReader_readAtom_48 : decode c_LawReader_readAtom 48 = .ok (.iload_n 1, 1) := by decide +kernel
theorem dd_LawReader_readAtom_49 : decode c_LawReader_readAtom 49 = .ok (.invokevirtual 67, 3) := by decide +kernel
theorem dd_LawReader_readAtom_52 : decode c_LawReader_readAtom 52 = .ok (.ifCond .eq 27, 3) := by decide +kernel
theorem dd_LawReader_readAtom_55 : decode c_LawReader_readAtom 55 = .ok (.aload_n 0, 1) := by decide +kernel
theorem dd_LawReader_readAtom_56 : decode c_LawReader_readAtom 56 = .ok (.iload_n 1, 1) := by decide +kernel
theorem dd_LawReader_readAtom_57 : decode c_LawReader_readAtom 57 = .ok (.iconst 1, 1) := by decide +kernel
theorem dd_LawReader_readAtom_58 : decode c_LawReader_readAtom 58 = .ok (.iadd, 1) := by decide +kernel
theorem dd_LawReader_readAtom_59 : decode c_LawReader_readAtom 59 = .ok (.invokevirtual 47, 3) := by decide +kernel
theorem dd_LawReader_readAtom_62 : decode c_LawReader_readAtom 62 = .ok (.aload_n 0, 1) := by decide +kernel
theorem dd_LawReader_readAtom_63 : decode c_LawReader_readAtom 63 = .ok (.getfield 15, 3) := by decide +kernel
theorem dd_LawReader_readAtom_66 : decode c_LawReader_readAtom 66 = .ok (.bipush 93, 2) := by decide +kernel
theorem dd_LawReader_readAtom_68 : decode c_LawReader_readAtom 68 = .ok (.invokevirtual 39, 3) := by decide +kernel
theorem dd_LawReader_readAtom_71 : decode c_LawReader_readAtom 71 = .ok (.goto 8, 3) := by decide +kernel
theorem dd_LawReader_readAtom_74 : decode c_LawReader_readAtom 74 = .ok (.aload_n 0, 1) := by decide +kernel
theorem dd_LawReader_readAtom_75 : decode c_LawReader_readAtom 75 = .ok (.iload_n 2, 1) := by decide +kernel
theorem dd_LawReader_readAtom_76 : decode c_LawReader_readAtom 76 = .ok (.invokevirtual 86, 3) := by decide +kernel
theorem dd_LawReader_readAtom_79 : decode c_LawReader_readAtom 79 = .ok (.return_, 1) := by decide +kernel
theorem dd_LawReader_readTerm_0 : decode c_LawReader_readTerm 0 = .ok (.aload_n 0, 1) := by decide +kernel
theorem dd_LawReader_readTerm_1 : decode c_LawReader_readTerm 1 = .ok (.iload_n 1, 1) := by decide +kernel
theorem dd_LawReader_readTerm_2 : decode c_LawReader_readTerm 2 = .ok (.invokevirtual 79, 3) := by decide +kernel
theorem dd_LawReader_readTerm_5 : decode c_LawReader_readTerm 5 = .ok (.iconst 0, 1) := by decide +kernel
theorem dd_LawReader_readTerm_6 : decode c_LawReader_readTerm 6 = .ok (.istore_n 2, 1) := by decide +kernel
theorem dd_LawReader_readTerm_7 : decode c_LawReader_readTerm 7 = .ok (.iload_n 2, 1) := by decide +kernel
theorem dd_LawReader_readTerm_8 : decode c_LawReader_readTerm 8 = .ok (.sipush 240, 3) := by decide +kernel
theorem dd_LawReader_readTerm_11 : decode c_LawReader_readTerm 11 = .ok (.if_icmp .ge 54, 3) := by decide +kernel
theorem dd_LawReader_readTerm_14 : decode c_LawReader_readTerm 14 = .ok (.aload_n 0, 1) := by decide +kernel
theorem dd_LawReader_readTerm_15 : decode c_LawReader_readTerm 15 = .ok (.getfield 15, 3) := by decide +kernel
theorem dd_LawReader_readTerm_18 : decode c_LawReader_readTerm 18 = .ok (.invokevirtual 43, 3) := by decide +kernel
theorem dd_LawReader_readTerm_21 : decode c_LawReader_readTerm 21 = .ok (.istore_n 3, 1) := by decide +kernel
theorem dd_LawReader_readTerm_22 : decode c_LawReader_readTerm 22 = .ok (.iload_n 3, 1) := by decide +kernel
theorem dd_LawReader_readTerm_23 : decode c_LawReader_readTerm 23 = .ok (.bipush 42, 2) := by decide +kernel
theorem dd_LawReader_readTerm_25 : decode c_LawReader_readTerm 25 = .ok (.if_icmp .eq 10, 3) := by decide +kernel
theorem dd_LawReader_readTerm_28 : decode c_LawReader_readTerm 28 = .ok (.iload_n 3, 1) := by decide +kernel
theorem dd_LawReader_readTerm_29 : decode c_LawReader_readTerm 29 = .ok (.bipush 47, 2) := by decide +kernel
theorem dd_LawReader_readTerm_31 : decode c_LawReader_readTerm 31 = .ok (.if_icmp .eq 4, 3) := by decide +kernel
theorem dd_LawReader_readTerm_34 : decode c_LawReader_readTerm 34 = .ok (.return_, 1) := by decide +kernel
theorem dd_LawReader_readTerm_35 : decode c_LawReader_readTerm 35 = .ok (.aload_n 0, 1) := by decide +kernel
theorem dd_LawReader_readTerm_36 : decode c_LawReader_readTerm 36 = .ok (.getfield 15, 3) := by decide +kernel
theorem dd_LawReader_readTerm_39 : decode c_LawReader_readTerm 39 = .ok (.dup, 1) := by decide +kernel
theorem dd_LawReader_readTerm_40 : decode c_LawReader_readTerm 40 = .ok (.getfield 70, 3) := by decide +kernel
theorem dd_LawReader_readTerm_43 : decode c_LawReader_readTerm 43 = .ok (.iconst 1, 1) := by decide +kernel
theorem dd_LawReader_readTerm_44 : decode c_LawReader_readTerm 44 = .ok (.iadd, 1) := by decide +kernel
theorem dd_LawReader_readTerm_45 : decode c_LawReader_readTerm 45 = .ok (.putfield 70, 3) := by decide +kernel
theorem dd_LawReader_readTerm_48 : decode c_LawReader_readTerm 48 = .ok (.aload_n 0, 1) := by decide +kernel
theorem dd_LawReader_readTerm_49 : decode c_LawReader_readTerm 49 = .ok (.iload_n 1, 1) := by decide +kernel
theorem dd_LawReader_readTerm_50 : decode c_LawReader_readTerm 50 = .ok (.invokevirtual 79, 3) := by decide +kernel
theorem dd_LawReader_readTerm_53 : decode c_LawReader_readTerm 53 = .ok (.aload_n 0, 1) := by decide +kernel
theorem dd_LawReader_readTerm_54 : decode c_LawReader_readTerm 54 = .ok (.iload_n 3, 1) := by decide +kernel
theorem dd_LawReader_readTerm_55 : decode c_LawReader_readTerm 55 = .ok (.iconst 0, 1) := by decide +kernel
theorem dd_LawReader_readTerm_56 : decode c_LawReader_readTerm 56 = .ok (.invokevirtual 57, 3) := by decide +kernel
theorem dd_LawReader_readTerm_59 : decode c_LawReader_readTerm 59 = .ok (.iinc 2 1, 3) := by decide +kernel
theorem dd_LawReader_readTerm_62 : decode c_LawReader_readTerm 62 = .ok (.goto (-55), 3) := by decide +kernel
theorem dd_LawReader_readTerm_65 : decode c_LawReader_readTerm 65 = .ok (.return_, 1) := by decide +kernel
theorem dd_LawReader_readSum_0 : decode c_LawReader_readSum 0 = .ok (.aload_n 0, 1) := by decide +kernel
theorem dd_LawReader_readSum_1 : decode c_LawReader_readSum 1 = .ok (.iload_n 1, 1) := by decide +kernel
theorem dd_LawReader_readSum_2 : decode c_LawReader_readSum 2 = .ok (.invokevirtual 76, 3) := by decide +kernel
theorem dd_LawReader_readSum_5 : decode c_LawReader_readSum 5 = .ok (.iconst 0, 1) := by decide +kernel
theorem dd_LawReader_readSum_6 : decode c_LawReader_readSum 6 = .ok (.istore_n 2, 1) := by decide +kernel
theorem dd_LawReader_readSum_7 : decode c_LawReader_readSum 7 = .ok (.iload_n 2, 1) := by decide +kernel
theorem dd_LawReader_readSum_8 : decode c_LawReader_readSum 8 = .ok (.sipush 240, 3) := by decide +kernel
theorem dd_LawReader_readSum_11 : decode c_LawReader_readSum 11 = .ok (.if_icmp .ge 54, 3) := by decide +kernel
theorem dd_LawReader_readSum_14 : decode c_LawReader_readSum 14 = .ok (.aload_n 0, 1) := by decide +kernel
theorem dd_LawReader_readSum_15 : decode c_LawReader_readSum 15 = .ok (.getfield 15, 3) := by decide +kernel
theorem dd_LawReader_readSum_18 : decode c_LawReader_readSum 18 = .ok (.invokevirtual 43, 3) := by decide +kernel
theorem dd_LawReader_readSum_21 : decode c_LawReader_readSum 21 = .ok (.istore_n 3, 1) := by decide +kernel
theorem dd_LawReader_readSum_22 : decode c_LawReader_readSum 22 = .ok (.iload_n 3, 1) := by decide +kernel
theorem dd_LawReader_readSum_23 : decode c_LawReader_readSum 23 = .ok (.bipush 43, 2) := by decide +kernel
theorem dd_LawReader_readSum_25 : decode c_LawReader_readSum 25 = .ok (.if_icmp .eq 10, 3) := by decide +kernel
theorem dd_LawReader_readSum_28 : decode c_LawReader_readSum 28 = .ok (.iload_n 3, 1) := by decide +kernel
theorem dd_LawReader_readSum_29 : decode c_LawReader_readSum 29 = .ok (.bipush 45, 2) := by decide +kernel
theorem dd_LawReader_readSum_31 : decode c_LawReader_readSum 31 = .ok (.if_icmp .eq 4, 3) := by decide +kernel
theorem dd_LawReader_readSum_34 : decode c_LawReader_readSum 34 = .ok (.return_, 1) := by decide +kernel
theorem dd_LawReader_readSum_35 : decode c_LawReader_readSum 35 = .ok (.aload_n 0, 1) := by decide +kernel
theorem dd_LawReader_readSum_36 : decode c_LawReader_readSum 36 = .ok (.getfield 15, 3) := by decide +kernel
theorem dd_LawReader_readSum_39 : decode c_LawReader_readSum 39 = .ok (.dup, 1) := by decide +kernel
theorem dd_LawReader_readSum_40 : decode c_LawReader_readSum 40 = .ok (.getfield 70, 3) := by decide +kernel
theorem dd_LawReader_readSum_43 : decode c_LawReader_readSum 43 = .ok (.iconst 1, 1) := by decide +kernel
theorem dd_LawReader_readSum_44 : decode c_LawReader_readSum 44 = .ok (.iadd, 1) := by decide +kernel
theorem dd_LawReader_readSum_45 : decode c_LawReader_readSum 45 = .ok (.putfield 70, 3) := by decide +kernel
theorem dd_LawReader_readSum_48 : decode c_LawReader_readSum 48 = .ok (.aload_n 0, 1) := by decide +kernel
theorem dd_LawReader_readSum_49 : decode c_LawReader_readSum 49 = .ok (.iload_n 1, 1) := by decide +kernel
theorem dd_LawReader_readSum_50 : decode c_LawReader_readSum 50 = .ok (.invokevirtual 76, 3) := by decide +kernel
theorem dd_LawReader_readSum_53 : decode c_LawReader_readSum 53 = .ok (.aload_n 0, 1) := by decide +kernel
theorem dd_LawReader_readSum_54 : decode c_LawReader_readSum 54 = .ok (.iload_n 3, 1) := by decide +kernel
theorem dd_LawReader_readSum_55 : decode c_LawReader_readSum 55 = .ok (.iconst 0, 1) := by decide +kernel
theorem dd_LawReader_readSum_56 : decode c_LawReader_readSum 56 = .ok (.invokevirtual 57, 3) := by decide +kernel
theorem dd_LawReader_readSum_59 : decode c_LawReader_readSum 59 = .ok (.iinc 2 1, 3) := by decide +kernel
theorem dd_LawReader_readSum_62 : decode c_LawReader_readSum 62 = .ok (.goto (-55), 3) := by decide +kernel
theorem dd_LawReader_readSum_65 : decode c_LawReader_readSum 65 = .ok (.return_, 1) := by decide +kernel
theorem dd_LawReader_isComparison_0 : decode c_LawReader_isComparison 0 = .ok (.iload_n 0, 1) := by decide +kernel
theorem dd_LawReader_isComparison_1 : decode c_LawReader_isComparison 1 = .ok (.bipush 61, 2) := by decide +kernel
theorem dd_LawReader_isComparison_3 : decode c_LawReader_isComparison 3 = .ok (.if_icmp .eq 15, 3) := by decide +kernel
theorem dd_LawReader_isComparison_6 : decode c_LawReader_isComparison 6 = .ok (.iload_n 0, 1) := by decide +kernel
theorem dd_LawReader_isComparison_7 : decode c_LawReader_isComparison 7 = .ok (.bipush 60, 2) := by decide +kernel
theorem dd_LawReader_isComparison_9 : decode c_LawReader_isComparison 9 = .ok (.if_icmp .eq 9, 3) := by decide +kernel
theorem dd_LawReader_isComparison_12 : decode c_LawReader_isComparison 12 = .ok (.iload_n 0, 1) := by decide +kernel
theorem dd_LawReader_isComparison_13 : decode c_LawReader_isComparison 13 = .ok (.bipush 62, 2) := by decide +kernel
theorem dd_LawReader_isComparison_15 : decode c_LawReader_isComparison 15 = .ok (.if_icmp .ne 7, 3) := by decide +kernel
theorem dd_LawReader_isComparison_18 : decode c_LawReader_isComparison 18 = .ok (.iconst 1, 1) := by decide +kernel
theorem dd_LawReader_isComparison_19 : decode c_LawReader_isComparison 19 = .ok (.goto 4, 3) := by decide +kernel
theorem dd_LawReader_isComparison_22 : decode c_LawReader_isComparison 22 = .ok (.iconst 0, 1) := by decide +kernel
theorem dd_LawReader_isComparison_23 : decode c_LawReader_isComparison 23 = .ok (.ireturn, 1) := by decide +kernel
theorem dd_Tape_takes_0 : decode c_Tape_takes 0 = .ok (.aload_n 0, 1) := by decide +kernel
theorem dd_Tape_takes_1 : decode c_Tape_takes 1 = .ok (.invokevirtual 28, 3) := by decide +kernel
theorem dd_Tape_takes_4 : decode c_Tape_takes 4 = .ok (.iload_n 1, 1) := by decide +kernel
theorem dd_Tape_takes_5 : decode c_Tape_takes 5 = .ok (.if_icmp .eq 5, 3) := by decide +kernel
theorem dd_Tape_takes_8 : decode c_Tape_takes 8 = .ok (.iconst 0, 1) := by decide +kernel
theorem dd_Tape_takes_9 : decode c_Tape_takes 9 = .ok (.ireturn, 1) := by decide +kernel
theorem dd_Tape_takes_10 : decode c_Tape_takes 10 = .ok (.aload_n 0, 1) := by decide +kernel
theorem dd_Tape_takes_11 : decode c_Tape_takes 11 = .ok (.dup, 1) := by decide +kernel
theorem dd_Tape_takes_12 : decode c_Tape_takes 12 = .ok (.getfield 19, 3) := by decide +kernel
theorem dd_Tape_takes_15 : decode c_Tape_takes 15 = .ok (.iconst 1, 1) := by decide +kernel
theorem dd_Tape_takes_16 : decode c_Tape_takes 16 = .ok (.iadd, 1) := by decide +kernel
theorem dd_Tape_takes_17 : decode c_Tape_takes 17 = .ok (.putfield 19, 3) := by decide +kernel
theorem dd_Tape_takes_20 : decode c_Tape_takes 20 = .ok (.iconst 1, 1) := by decide +kernel
theorem dd_Tape_takes_21 : decode c_Tape_takes 21 = .ok (.ireturn, 1) := by decide +kernel
theorem dd_LawReader_readTruth_0 : decode c_LawReader_readTruth 0 = .ok (.aload_n 0, 1) := by decide +kernel
theorem dd_LawReader_readTruth_1 : decode c_LawReader_readTruth 1 = .ok (.iload_n 1, 1) := by decide +kernel
theorem dd_LawReader_readTruth_2 : decode c_LawReader_readTruth 2 = .ok (.iload_n 2, 1) := by decide +kernel
theorem dd_LawReader_readTruth_3 : decode c_LawReader_readTruth 3 = .ok (.invokevirtual 64, 3) := by decide +kernel
theorem dd_LawReader_readTruth_6 : decode c_LawReader_readTruth 6 = .ok (.iconst 0, 1) := by decide +kernel
theorem dd_LawReader_readTruth_7 : decode c_LawReader_readTruth 7 = .ok (.istore_n 3, 1) := by decide +kernel
theorem dd_LawReader_readTruth_8 : decode c_LawReader_readTruth 8 = .ok (.iload_n 3, 1) := by decide +kernel
theorem dd_LawReader_readTruth_9 : decode c_LawReader_readTruth 9 = .ok (.sipush 240, 3) := by decide +kernel
theorem dd_LawReader_readTruth_12 : decode c_LawReader_readTruth 12 = .ok (.if_icmp .ge 34, 3) := by decide +kernel
theorem dd_LawReader_readTruth_15 : decode c_LawReader_readTruth 15 = .ok (.aload_n 0, 1) := by decide +kernel
theorem dd_LawReader_readTruth_16 : decode c_LawReader_readTruth 16 = .ok (.getfield 15, 3) := by decide +kernel
theorem dd_LawReader_readTruth_19 : decode c_LawReader_readTruth 19 = .ok (.bipush 38, 2) := by decide +kernel
theorem dd_LawReader_readTruth_21 : decode c_LawReader_readTruth 21 = .ok (.invokevirtual 29, 3) := by decide +kernel
theorem dd_LawReader_readTruth_24 : decode c_LawReader_readTruth 24 = .ok (.ifCond .eq 22, 3) := by decide +kernel
theorem dd_LawReader_readTruth_27 : decode c_LawReader_readTruth 27 = .ok (.aload_n 0, 1) := by decide +kernel
theorem dd_LawReader_readTruth_28 : decode c_LawReader_readTruth 28 = .ok (.iload_n 1, 1) := by decide +kernel
theorem dd_LawReader_readTruth_29 : decode c_LawReader_readTruth 29 = .ok (.iconst 0, 1) := by decide +kernel
theorem dd_LawReader_readTruth_30 : decode c_LawReader_readTruth 30 = .ok (.invokevirtual 64, 3) := by decide +kernel
theorem dd_LawReader_readTruth_33 : decode c_LawReader_readTruth 33 = .ok (.aload_n 0, 1) := by decide +kernel
theorem dd_LawReader_readTruth_34 : decode c_LawReader_readTruth 34 = .ok (.bipush 38, 2) := by decide +kernel
theorem dd_LawReader_readTruth_36 : decode c_LawReader_readTruth 36 = .ok (.iconst 0, 1) := by decide +kernel
theorem dd_LawReader_readTruth_37 : decode c_LawReader_readTruth 37 = .ok (.invokevirtual 57, 3) := by decide +kernel
theorem dd_LawReader_readTruth_40 : decode c_LawReader_readTruth 40 = .ok (.iinc 3 1, 3) := by decide +kernel
theorem dd_LawReader_readTruth_43 : decode c_LawReader_readTruth 43 = .ok (.goto (-35), 3) := by decide +kernel
theorem dd_LawReader_readTruth_46 : decode c_LawReader_readTruth 46 = .ok (.return_, 1) := by decide +kernel
theorem dd_LawReader_readCondition_0 : decode c_LawReader_readCondition 0 = .ok (.aload_n 0, 1) := by decide +kernel
theorem dd_LawReader_readCondition_1 : decode c_LawReader_readCondition 1 = .ok (.iload_n 1, 1) := by decide +kernel
theorem dd_LawReader_readCondition_2 : decode c_LawReader_readCondition 2 = .ok (.iload_n 2, 1) := by decide +kernel
theorem dd_LawReader_readCondition_3 : decode c_LawReader_readCondition 3 = .ok (.invokevirtual 61, 3) := by decide +kernel
theorem dd_LawReader_readCondition_6 : decode c_LawReader_readCondition 6 = .ok (.iconst 0, 1) := by decide +kernel
theorem dd_LawReader_readCondition_7 : decode c_LawReader_readCondition 7 = .ok (.istore_n 3, 1) := by decide +kernel
theorem dd_LawReader_readCondition_8 : decode c_LawReader_readCondition 8 = .ok (.iload_n 3, 1) := by decide +kernel
theorem dd_LawReader_readCondition_9 : decode c_LawReader_readCondition 9 = .ok (.sipush 240, 3) := by decide +kernel
theorem dd_LawReader_readCondition_12 : decode c_LawReader_readCondition 12 = .ok (.if_icmp .ge 34, 3) := by decide +kernel
theorem dd_LawReader_readCondition_15 : decode c_LawReader_readCondition 15 = .ok (.aload_n 0, 1) := by decide +kernel
theorem dd_LawReader_readCondition_16 : decode c_LawReader_readCondition 16 = .ok (.getfield 15, 3) := by decide +kernel
theorem dd_LawReader_readCondition_19 : decode c_LawReader_readCondition 19 = .ok (.bipush 124, 2) := by decide +kernel
theorem dd_LawReader_readCondition_21 : decode c_LawReader_readCondition 21 = .ok (.invokevirtual 29, 3) := by decide +kernel
theorem dd_LawReader_readCondition_24 : decode c_LawReader_readCondition 24 = .ok (.ifCond .eq 22, 3) := by decide +kernel
theorem dd_LawReader_readCondition_27 : decode c_LawReader_readCondition 27 = .ok (.aload_n 0, 1) := by decide +kernel
theorem dd_LawReader_readCondition_28 : decode c_LawReader_readCondition 28 = .ok (.iload_n 1, 1) := by decide +kernel
theorem dd_LawReader_readCondition_29 : decode c_LawReader_readCondition 29 = .ok (.iconst 0, 1) := by decide +kernel
theorem dd_LawReader_readCondition_30 : decode c_LawReader_readCondition 30 = .ok (.invokevirtual 61, 3) := by decide +kernel
theorem dd_LawReader_readCondition_33 : decode c_LawReader_readCondition 33 = .ok (.aload_n 0, 1) := by decide +kernel
theorem dd_LawReader_readCondition_34 : decode c_LawReader_readCondition 34 = .ok (.bipush 124, 2) := by decide +kernel
theorem dd_LawReader_readCondition_36 : decode c_LawReader_readCondition 36 = .ok (.iconst 0, 1) := by decide +kernel
theorem dd_LawReader_readCondition_37 : decode c_LawReader_readCondition 37 = .ok (.invokevirtual 57, 3) := by decide +kernel
theorem dd_LawReader_readCondition_40 : decode c_LawReader_readCondition 40 = .ok (.iinc 3 1, 3) := by decide +kernel
theorem dd_LawReader_readCondition_43 : decode c_LawReader_readCondition 43 = .ok (.goto (-35), 3) := by decide +kernel
theorem dd_LawReader_readCondition_46 : decode c_LawReader_readCondition 46 = .ok (.return_, 1) := by decide +kernel
theorem dd_LawReader_readUnit_0 : decode c_LawReader_readUnit 0 = .ok (.iload_n 2, 1) := by decide +kernel
theorem dd_LawReader_readUnit_1 : decode c_LawReader_readUnit 1 = .ok (.ifCond .eq 7, 3) := by decide +kernel
theorem dd_LawReader_readUnit_4 : decode c_LawReader_readUnit 4 = .ok (.iconst 0, 1) := by decide +kernel
theorem dd_LawReader_readUnit_5 : decode c_LawReader_readUnit 5 = .ok (.goto 10, 3) := by decide +kernel
theorem dd_LawReader_readUnit_8 : decode c_LawReader_readUnit 8 = .ok (.aload_n 0, 1) := by decide +kernel
theorem dd_LawReader_readUnit_9 : decode c_LawReader_readUnit 9 = .ok (.getfield 15, 3) := by decide +kernel
theorem dd_LawReader_readUnit_12 : decode c_LawReader_readUnit 12 = .ok (.invokevirtual 43, 3) := by decide +kernel
theorem dd_LawReader_readUnit_15 : decode c_LawReader_readUnit 15 = .ok (.istore_n 3, 1) := by decide +kernel
theorem dd_LawReader_readUnit_16 : decode c_LawReader_readUnit 16 = .ok (.iload_n 3, 1) := by decide +kernel
theorem dd_LawReader_readUnit_17 : decode c_LawReader_readUnit 17 = .ok (.bipush 33, 2) := by decide +kernel
theorem dd_LawReader_readUnit_19 : decode c_LawReader_readUnit 19 = .ok (.if_icmp .ne 29, 3) := by decide +kernel
theorem dd_LawReader_readUnit_22 : decode c_LawReader_readUnit 22 = .ok (.aload_n 0, 1) := by decide +kernel
theorem dd_LawReader_readUnit_23 : decode c_LawReader_readUnit 23 = .ok (.iload_n 1, 1) := by decide +kernel
theorem dd_LawReader_readUnit_24 : decode c_LawReader_readUnit 24 = .ok (.invokevirtual 67, 3) := by decide +kernel
theorem dd_LawReader_readUnit_27 : decode c_LawReader_readUnit 27 = .ok (.ifCond .eq 123, 3) := by decide +kernel
theorem dd_LawReader_readUnit_30 : decode c_LawReader_readUnit 30 = .ok (.aload_n 0, 1) := by decide +kernel
theorem dd_LawReader_readUnit_31 : decode c_LawReader_readUnit 31 = .ok (.iload_n 1, 1) := by decide +kernel
theorem dd_LawReader_readUnit_32 : decode c_LawReader_readUnit 32 = .ok (.iconst 1, 1) := by decide +kernel
theorem dd_LawReader_readUnit_33 : decode c_LawReader_readUnit 33 = .ok (.iadd, 1) := by decide +kernel
theorem dd_LawReader_readUnit_34 : decode c_LawReader_readUnit 34 = .ok (.iconst 0, 1) := by decide +kernel
theorem dd_LawReader_readUnit_35 : decode c_LawReader_readUnit 35 = .ok (.invokevirtual 64, 3) := by decide +kernel
theorem dd_LawReader_readUnit_38 : decode c_LawReader_readUnit 38 = .ok (.aload_n 0, 1) := by decide +kernel
theorem dd_LawReader_readUnit_39 : decode c_LawReader_readUnit 39 = .ok (.bipush 33, 2) := by decide +kernel
theorem dd_LawReader_readUnit_41 : decode c_LawReader_readUnit 41 = .ok (.iconst 0, 1) := by decide +kernel
theorem dd_LawReader_readUnit_42 : decode c_LawReader_readUnit 42 = .ok (.invokevirtual 57, 3) := by decide +kernel
theorem dd_LawReader_readUnit_45 : decode c_LawReader_readUnit 45 = .ok (.goto 105, 3) := by decide +kernel
theorem dd_LawReader_readUnit_48 : decode c_LawReader_readUnit 48 = .ok (.iload_n 3, 1) := by decide +kernel
theorem dd_LawReader_readUnit_49 : decode c_LawReader_readUnit 49 = .ok (.bipush 40, 2) := by decide +kernel
theorem dd_LawReader_readUnit_51 : decode c_LawReader_readUnit 51 = .ok (.if_icmp .ne 31, 3) := by decide +kernel
theorem dd_LawReader_readUnit_54 : decode c_LawReader_readUnit 54 = .ok (.aload_n 0, 1) := by decide +kernel
theorem dd_LawReader_readUnit_55 : decode c_LawReader_readUnit 55 = .ok (.iload_n 1, 1) := by decide +kernel
theorem dd_LawReader_readUnit_56 : decode c_LawReader_readUnit 56 = .ok (.invokevirtual 67, 3) := by decide +kernel
theorem dd_LawReader_readUnit_59 : decode c_LawReader_readUnit 59 = .ok (.ifCond .eq 91, 3) := by decide +kernel
theorem dd_LawReader_readUnit_62 : decode c_LawReader_readUnit 62 = .ok (.aload_n 0, 1) := by decide +kernel
theorem dd_LawReader_readUnit_63 : decode c_LawReader_readUnit 63 = .ok (.iload_n 1, 1) := by decide +kernel
theorem dd_LawReader_readUnit_64 : decode c_LawReader_readUnit 64 = .ok (.iconst 1, 1) := by decide +kernel
theorem dd_LawReader_readUnit_65 : decode c_LawReader_readUnit 65 = .ok (.iadd, 1) := by decide +kernel
theorem dd_LawReader_readUnit_66 : decode c_LawReader_readUnit 66 = .ok (.iconst 0, 1) := by decide +kernel
theorem dd_LawReader_readUnit_67 : decode c_LawReader_readUnit 67 = .ok (.invokevirtual 53, 3) := by decide +kernel
theorem dd_LawReader_readUnit_70 : decode c_LawReader_readUnit 70 = .ok (.aload_n 0, 1) := by decide +kernel
theorem dd_LawReader_readUnit_71 : decode c_LawReader_readUnit 71 = .ok (.getfield 15, 3) := by decide +kernel
theorem dd_LawReader_readUnit_74 : decode c_LawReader_readUnit 74 = .ok (.bipush 41, 2) := by decide +kernel
theorem dd_LawReader_readUnit_76 : decode c_LawReader_readUnit 76 = .ok (.invokevirtual 39, 3) := by decide +kernel
theorem dd_LawReader_readUnit_79 : decode c_LawReader_readUnit 79 = .ok (.goto 71, 3) := by decide +kernel
theorem dd_LawReader_readUnit_82 : decode c_LawReader_readUnit 82 = .ok (.iload_n 2, 1) := by decide +kernel
theorem dd_LawReader_readUnit_83 : decode c_LawReader_readUnit 83 = .ok (.ifCond .ne 8, 3) := by decide +kernel
theorem dd_LawReader_readUnit_86 : decode c_LawReader_readUnit 86 = .ok (.aload_n 0, 1) := by decide +kernel
theorem dd_LawReader_readUnit_87 : decode c_LawReader_readUnit 87 = .ok (.iload_n 1, 1) := by decide +kernel
theorem dd_LawReader_readUnit_88 : decode c_LawReader_readUnit 88 = .ok (.invokevirtual 47, 3) := by decide +kernel
theorem dd_LawReader_readUnit_91 : decode c_LawReader_readUnit 91 = .ok (.aload_n 0, 1) := by decide +kernel
theorem dd_LawReader_readUnit_92 : decode c_LawReader_readUnit 92 = .ok (.getfield 15, 3) := by decide +kernel
theorem dd_LawReader_readUnit_95 : decode c_LawReader_readUnit 95 = .ok (.invokevirtual 43, 3) := by decide +kernel
theorem dd_LawReader_readUnit_98 : decode c_LawReader_readUnit 98 = .ok (.istore 4, 2) := by decide +kernel
theorem dd_LawReader_readUnit_100 : decode c_LawReader_readUnit 100 = .ok (.iload 4, 2) := by decide +kernel
theorem dd_LawReader_readUnit_102 : decode c_LawReader_readUnit 102 = .ok (.invokestatic 50, 3) := by decide +kernel
theorem dd_LawReader_readUnit_105 : decode c_LawReader_readUnit 105 = .ok (.ifCond .eq 19, 3) := by decide +kernel
theorem dd_LawReader_readUnit_108 : decode c_LawReader_readUnit 108 = .ok (.aload_n 0, 1) := by decide +kernel
theorem dd_LawReader_readUnit_109 : decode c_LawReader_readUnit 109 = .ok (.getfield 15, 3) := by decide +kernel
theorem dd_LawReader_readUnit_112 : decode c_LawReader_readUnit 112 = .ok (.dup, 1) := by decide +kernel
theorem dd_LawReader_readUnit_113 : decode c_LawReader_readUnit 113 = .ok (.getfield 70, 3) := by decide +kernel
theorem dd_LawReader_readUnit_116 : decode c_LawReader_readUnit 116 = .ok (.iconst 1, 1) := by decide +kernel
theorem dd_LawReader_readUnit_117 : decode c_LawReader_readUnit 117 = .ok (.iadd, 1) := by decide +kernel
theorem dd_LawReader_readUnit_118 : decode c_LawReader_readUnit 118 = .ok (.putfield 70, 3) := by decide +kernel
theorem dd_LawReader_readUnit_121 : decode c_LawReader_readUnit 121 = .ok (.goto 17, 3) := by decide +kernel
theorem dd_LawReader_readUnit_124 : decode c_LawReader_readUnit 124 = .ok (.aload_n 0, 1) := by decide +kernel
theorem dd_LawReader_readUnit_125 : decode c_LawReader_readUnit 125 = .ok (.getfield 15, 3) := by decide +kernel
theorem dd_LawReader_readUnit_128 : decode c_LawReader_readUnit 128 = .ok (.aload_n 0, 1) := by decide +kernel
theorem dd_LawReader_readUnit_129 : decode c_LawReader_readUnit 129 = .ok (.getfield 15, 3) := by decide +kernel
theorem dd_LawReader_readUnit_132 : decode c_LawReader_readUnit 132 = .ok (.getfield 70, 3) := by decide +kernel
theorem dd_LawReader_readUnit_135 : decode c_LawReader_readUnit 135 = .ok (.invokevirtual 73, 3) := by decide +kernel
theorem dd_LawReader_readUnit_138 : decode c_LawReader_readUnit 138 = .ok (.aload_n 0, 1) := by decide +kernel
theorem dd_LawReader_readUnit_139 : decode c_LawReader_readUnit 139 = .ok (.iload_n 1, 1) := by decide +kernel
theorem dd_LawReader_readUnit_140 : decode c_LawReader_readUnit 140 = .ok (.invokevirtual 47, 3) := by decide +kernel
theorem dd_LawReader_readUnit_143 : decode c_LawReader_readUnit 143 = .ok (.aload_n 0, 1) := by decide +kernel
theorem dd_LawReader_readUnit_144 : decode c_LawReader_readUnit 144 = .ok (.iload 4, 2) := by decide +kernel
theorem dd_LawReader_readUnit_146 : decode c_LawReader_readUnit 146 = .ok (.iconst 0, 1) := by decide +kernel
theorem dd_LawReader_readUnit_147 : decode c_LawReader_readUnit 147 = .ok (.invokevirtual 57, 3) := by decide +kernel
theorem dd_LawReader_readUnit_150 : decode c_LawReader_readUnit 150 = .ok (.return_, 1) := by decide +kernel
theorem dd_LawReader_readClause_0 : decode c_LawReader_readClause 0 = .ok (.aload_n 0, 1) := by decide +kernel
theorem dd_LawReader_readClause_1 : decode c_LawReader_readClause 1 = .ok (.getfield 15, 3) := by decide +kernel
theorem dd_LawReader_readClause_4 : decode c_LawReader_readClause 4 = .ok (.bipush 121, 2) := by decide +kernel
theorem dd_LawReader_readClause_6 : decode c_LawReader_readClause 6 = .ok (.invokevirtual 39, 3) := by decide +kernel
theorem dd_LawReader_readClause_9 : decode c_LawReader_readClause 9 = .ok (.aload_n 0, 1) := by decide +kernel
theorem dd_LawReader_readClause_10 : decode c_LawReader_readClause 10 = .ok (.getfield 15, 3) := by decide +kernel
theorem dd_LawReader_readClause_13 : decode c_LawReader_readClause 13 = .ok (.bipush 58, 2) := by decide +kernel
theorem dd_LawReader_readClause_15 : decode c_LawReader_readClause 15 = .ok (.invokevirtual 39, 3) := by decide +kernel
theorem dd_LawReader_readClause_18 : decode c_LawReader_readClause 18 = .ok (.aload_n 0, 1) := by decide +kernel
theorem dd_LawReader_readClause_19 : decode c_LawReader_readClause 19 = .ok (.getfield 15, 3) := by decide +kernel
theorem dd_LawReader_readClause_22 : decode c_LawReader_readClause 22 = .ok (.invokevirtual 43, 3) := by decide +kernel
theorem dd_LawReader_readClause_25 : decode c_LawReader_readClause 25 = .ok (.istore_n 1, 1) := by decide +kernel
theorem dd_LawReader_readClause_26 : decode c_LawReader_readClause 26 = .ok (.iload_n 1, 1) := by decide +kernel
theorem dd_LawReader_readClause_27 : decode c_LawReader_readClause 27 = .ok (.bipush 33, 2) := by decide +kernel
theorem dd_LawReader_readClause_29 : decode c_LawReader_readClause 29 = .ok (.if_icmp .eq 13, 3) := by decide +kernel
theorem dd_LawReader_readClause_32 : decode c_LawReader_readClause 32 = .ok (.iload_n 1, 1) := by decide +kernel
theorem dd_LawReader_readClause_33 : decode c_LawReader_readClause 33 = .ok (.bipush 40, 2) := by decide +kernel
theorem dd_LawReader_readClause_35 : decode c_LawReader_readClause 35 = .ok (.if_icmp .eq 7, 3) := by decide +kernel
theorem dd_LawReader_readClause_38 : decode c_LawReader_readClause 38 = .ok (.iconst 1, 1) := by decide +kernel
theorem dd_LawReader_readClause_39 : decode c_LawReader_readClause 39 = .ok (.goto 4, 3) := by decide +kernel
theorem dd_LawReader_readClause_42 : decode c_LawReader_readClause 42 = .ok (.iconst 0, 1) := by decide +kernel
theorem dd_LawReader_readClause_43 : decode c_LawReader_readClause 43 = .ok (.istore_n 2, 1) := by decide +kernel
theorem dd_LawReader_readClause_44 : decode c_LawReader_readClause 44 = .ok (.iload_n 2, 1) := by decide +kernel
theorem dd_LawReader_readClause_45 : decode c_LawReader_readClause 45 = .ok (.ifCond .eq 8, 3) := by decide +kernel
theorem dd_LawReader_readClause_48 : decode c_LawReader_readClause 48 = .ok (.aload_n 0, 1) := by decide +kernel
theorem dd_LawReader_readClause_49 : decode c_LawReader_readClause 49 = .ok (.iconst 0, 1) := by decide +kernel
theorem dd_LawReader_readClause_50 : decode c_LawReader_readClause 50 = .ok (.invokevirtual 47, 3) := by decide +kernel
theorem dd_LawReader_readClause_53 : decode c_LawReader_readClause 53 = .ok (.iload_n 2, 1) := by decide +kernel
theorem dd_LawReader_readClause_54 : decode c_LawReader_readClause 54 = .ok (.ifCond .eq 16, 3) := by decide +kernel
theorem dd_LawReader_readClause_57 : decode c_LawReader_readClause 57 = .ok (.aload_n 0, 1) := by decide +kernel
theorem dd_LawReader_readClause_58 : decode c_LawReader_readClause 58 = .ok (.getfield 15, 3) := by decide +kernel
theorem dd_LawReader_readClause_61 : decode c_LawReader_readClause 61 = .ok (.invokevirtual 43, 3) := by decide +kernel
theorem dd_LawReader_readClause_64 : decode c_LawReader_readClause 64 = .ok (.invokestatic 50, 3) := by decide +kernel
theorem dd_LawReader_readClause_67 : decode c_LawReader_readClause 67 = .ok (.ifCond .eq 30, 3) := by decide +kernel
theorem dd_LawReader_readClause_70 : decode c_LawReader_readClause 70 = .ok (.aload_n 0, 1) := by decide +kernel
theorem dd_LawReader_readClause_71 : decode c_LawReader_readClause 71 = .ok (.iconst 0, 1) := by decide +kernel
theorem dd_LawReader_readClause_72 : decode c_LawReader_readClause 72 = .ok (.iload_n 2, 1) := by decide +kernel
theorem dd_LawReader_readClause_73 : decode c_LawReader_readClause 73 = .ok (.invokevirtual 53, 3) := by decide +kernel
theorem dd_LawReader_readClause_76 : decode c_LawReader_readClause 76 = .ok (.aload_n 0, 1) := by decide +kernel
theorem dd_LawReader_readClause_77 : decode c_LawReader_readClause 77 = .ok (.getfield 15, 3) := by decide +kernel
theorem dd_LawReader_readClause_80 : decode c_LawReader_readClause 80 = .ok (.bipush 63, 2) := by decide +kernel
theorem dd_LawReader_readClause_82 : decode c_LawReader_readClause 82 = .ok (.invokevirtual 39, 3) := by decide +kernel
theorem dd_LawReader_readClause_85 : decode c_LawReader_readClause 85 = .ok (.aload_n 0, 1) := by decide +kernel
theorem dd_LawReader_readClause_86 : decode c_LawReader_readClause 86 = .ok (.bipush 63, 2) := by decide +kernel
theorem dd_LawReader_readClause_88 : decode c_LawReader_readClause 88 = .ok (.iconst 0, 1) := by decide +kernel
theorem dd_LawReader_readClause_89 : decode c_LawReader_readClause 89 = .ok (.invokevirtual 57, 3) := by decide +kernel
theorem dd_LawReader_readClause_92 : decode c_LawReader_readClause 92 = .ok (.aload_n 0, 1) := by decide +kernel
theorem dd_LawReader_readClause_93 : decode c_LawReader_readClause 93 = .ok (.iconst 0, 1) := by decide +kernel
theorem dd_LawReader_readClause_94 : decode c_LawReader_readClause 94 = .ok (.invokevirtual 47, 3) := by decide +kernel
theorem dd_LawReader_readClause_97 : decode c_LawReader_readClause 97 = .ok (.aload_n 0, 1) := by decide +kernel
theorem dd_LawReader_readClause_98 : decode c_LawReader_readClause 98 = .ok (.bipush 121, 2) := by decide +kernel
theorem dd_LawReader_readClause_100 : decode c_LawReader_readClause 100 = .ok (.iconst 0, 1) := by decide +kernel
theorem dd_LawReader_readClause_101 : decode c_LawReader_readClause 101 = .ok (.invokevirtual 57, 3) := by decide +kernel
theorem dd_LawReader_readClause_104 : decode c_LawReader_readClause 104 = .ok (.return_, 1) := by decide +kernel
theorem dd_Tape_demandEnd_0 : decode c_Tape_demandEnd 0 = .ok (.aload_n 0, 1) := by decide +kernel
theorem dd_Tape_demandEnd_1 : decode c_Tape_demandEnd 1 = .ok (.invokevirtual 28, 3) := by decide +kernel
theorem dd_Tape_demandEnd_4 : decode c_Tape_demandEnd 4 = .ok (.ifCond .eq 11, 3) := by decide +kernel
theorem dd_Tape_demandEnd_7 : decode c_Tape_demandEnd 7 = .ok (.aload_n 0, 1) := by decide +kernel
theorem dd_Tape_demandEnd_8 : decode c_Tape_demandEnd 8 = .ok (.aload_n 0, 1) := by decide +kernel
theorem dd_Tape_demandEnd_9 : decode c_Tape_demandEnd 9 = .ok (.getfield 19, 3) := by decide +kernel
theorem dd_Tape_demandEnd_12 : decode c_Tape_demandEnd 12 = .ok (.invokevirtual 32, 3) := by decide +kernel
theorem dd_Tape_demandEnd_15 : decode c_Tape_demandEnd 15 = .ok (.return_, 1) := by decide +kernel
theorem dd_LawReader_read_0 : decode c_LawReader_read 0 = .ok (.aload_n 0, 1) := by decide +kernel
theorem dd_LawReader_read_1 : decode c_LawReader_read 1 = .ok (.getfield 15, 3) := by decide +kernel
theorem dd_LawReader_read_4 : decode c_LawReader_read 4 = .ok (.invokevirtual 19, 3) := by decide +kernel
theorem dd_LawReader_read_7 : decode c_LawReader_read 7 = .ok (.aload_n 0, 1) := by decide +kernel
theorem dd_LawReader_read_8 : decode c_LawReader_read 8 = .ok (.iconst 0, 1) := by decide +kernel
theorem dd_LawReader_read_9 : decode c_LawReader_read 9 = .ok (.putfield 22, 3) := by decide +kernel
theorem dd_LawReader_read_12 : decode c_LawReader_read 12 = .ok (.aload_n 0, 1) := by decide +kernel
theorem dd_LawReader_read_13 : decode c_LawReader_read 13 = .ok (.invokevirtual 26, 3) := by decide +kernel
theorem dd_LawReader_read_16 : decode c_LawReader_read 16 = .ok (.iconst 0, 1) := by decide +kernel
theorem dd_LawReader_read_17 : decode c_LawReader_read 17 = .ok (.istore_n 1, 1) := by decide +kernel
theorem dd_LawReader_read_18 : decode c_LawReader_read 18 = .ok (.iload_n 1, 1) := by decide +kernel
theorem dd_LawReader_read_19 : decode c_LawReader_read 19 = .ok (.sipush 240, 3) := by decide +kernel
theorem dd_LawReader_read_22 : decode c_LawReader_read 22 = .ok (.if_icmp .ge 25, 3) := by decide +kernel
theorem dd_LawReader_read_25 : decode c_LawReader_read 25 = .ok (.aload_n 0, 1) := by decide +kernel
theorem dd_LawReader_read_26 : decode c_LawReader_read 26 = .ok (.getfield 15, 3) := by decide +kernel
theorem dd_LawReader_read_29 : decode c_LawReader_read 29 = .ok (.bipush 59, 2) := by decide +kernel
theorem dd_LawReader_read_31 : decode c_LawReader_read 31 = .ok (.invokevirtual 29, 3) := by decide +kernel
theorem dd_LawReader_read_34 : decode c_LawReader_read 34 = .ok (.ifCond .eq 13, 3) := by decide +kernel
theorem dd_LawReader_read_37 : decode c_LawReader_read 37 = .ok (.aload_n 0, 1) := by decide +kernel
theorem dd_LawReader_read_38 : decode c_LawReader_read 38 = .ok (.invokevirtual 26, 3) := by decide +kernel
theorem dd_LawReader_read_41 : decode c_LawReader_read 41 = .ok (.iinc 1 1, 3) := by decide +kernel
theorem dd_LawReader_read_44 : decode c_LawReader_read 44 = .ok (.goto (-26), 3) := by decide +kernel
theorem dd_LawReader_read_47 : decode c_LawReader_read 47 = .ok (.aload_n 0, 1) := by decide +kernel
theorem dd_LawReader_read_48 : decode c_LawReader_read 48 = .ok (.getfield 15, 3) := by decide +kernel
theorem dd_LawReader_read_51 : decode c_LawReader_read 51 = .ok (.invokevirtual 33, 3) := by decide +kernel
theorem dd_LawReader_read_54 : decode c_LawReader_read 54 = .ok (.aload_n 0, 1) := by decide +kernel
theorem dd_LawReader_read_55 : decode c_LawReader_read 55 = .ok (.getfield 15, 3) := by decide +kernel
theorem dd_LawReader_read_58 : decode c_LawReader_read 58 = .ok (.getfield 36, 3) := by decide +kernel
theorem dd_LawReader_read_61 : decode c_LawReader_read 61 = .ok (.ireturn, 1) := by decide +kernel
theorem dd_CoastReader_takeItemsWithout_0 : decode c_CoastReader_takeItemsWithout 0 = .ok (.getstatic 88, 3) := by decide +kernel
theorem dd_CoastReader_takeItemsWithout_3 : decode c_CoastReader_takeItemsWithout 3 = .ok (.iload_n 1, 1) := by decide +kernel
theorem dd_CoastReader_takeItemsWithout_4 : decode c_CoastReader_takeItemsWithout 4 = .ok (.aload_n 0, 1) := by decide +kernel
theorem dd_CoastReader_takeItemsWithout_5 : decode c_CoastReader_takeItemsWithout 5 = .ok (.getfield 18, 3) := by decide +kernel
theorem dd_CoastReader_takeItemsWithout_8 : decode c_CoastReader_takeItemsWithout 8 = .ok (.iload_n 1, 1) := by decide +kernel
theorem dd_CoastReader_takeItemsWithout_9 : decode c_CoastReader_takeItemsWithout 9 = .ok (.iload_n 2, 1) := by decide +kernel
theorem dd_CoastReader_takeItemsWithout_10 : decode c_CoastReader_takeItemsWithout 10 = .ok (.iload_n 1, 1) := by decide +kernel
theorem dd_CoastReader_takeItemsWithout_11 : decode c_CoastReader_takeItemsWithout 11 = .ok (.isub, 1) := by decide +kernel
theorem dd_CoastReader_takeItemsWithout_12 : decode c_CoastReader_takeItemsWithout 12 = .ok (.invokestatic 91, 3) := by decide +kernel
theorem dd_CoastReader_takeItemsWithout_15 : decode c_CoastReader_takeItemsWithout 15 = .ok (.return_, 1) := by decide +kernel
theorem dd_CoastReader_keepRules_0 : decode c_CoastReader_keepRules 0 = .ok (.aload_n 0, 1) := by decide +kernel
theorem dd_CoastReader_keepRules_1 : decode c_CoastReader_keepRules 1 = .ok (.getfield 12, 3) := by decide +kernel
theorem dd_CoastReader_keepRules_4 : decode c_CoastReader_keepRules 4 = .ok (.aload_n 0, 1) := by decide +kernel
theorem dd_CoastReader_keepRules_5 : decode c_CoastReader_keepRules 5 = .ok (.getfield 18, 3) := by decide +kernel
theorem dd_CoastReader_keepRules_8 : decode c_CoastReader_keepRules 8 = .ok (.iconst 0, 1) := by decide +kernel
theorem dd_CoastReader_keepRules_9 : decode c_CoastReader_keepRules 9 = .ok (.iaload, 1) := by decide +kernel
theorem dd_CoastReader_keepRules_10 : decode c_CoastReader_keepRules 10 = .ok (.putfield 114, 3) := by decide +kernel
theorem dd_CoastReader_keepRules_13 : decode c_CoastReader_keepRules 13 = .ok (.aload_n 0, 1) := by decide +kernel
theorem dd_CoastReader_keepRules_14 : decode c_CoastReader_keepRules 14 = .ok (.getfield 12, 3) := by decide +kernel
theorem dd_CoastReader_keepRules_17 : decode c_CoastReader_keepRules 17 = .ok (.aload_n 0, 1) := by decide +kernel
theorem dd_CoastReader_keepRules_18 : decode c_CoastReader_keepRules 18 = .ok (.getfield 18, 3) := by decide +kernel
theorem dd_CoastReader_keepRules_21 : decode c_CoastReader_keepRules 21 = .ok (.iconst 1, 1) := by decide +kernel
theorem dd_CoastReader_keepRules_22 : decode c_CoastReader_keepRules 22 = .ok (.iaload, 1) := by decide +kernel
theorem dd_CoastReader_keepRules_23 : decode c_CoastReader_keepRules 23 = .ok (.putfield 117, 3) := by decide +kernel
theorem dd_CoastReader_keepRules_26 : decode c_CoastReader_keepRules 26 = .ok (.aload_n 0, 1) := by decide +kernel
theorem dd_CoastReader_keepRules_27 : decode c_CoastReader_keepRules 27 = .ok (.getfield 12, 3) := by decide +kernel
theorem dd_CoastReader_keepRules_30 : decode c_CoastReader_keepRules 30 = .ok (.aload_n 0, 1) := by decide +kernel
theorem dd_CoastReader_keepRules_31 : decode c_CoastReader_keepRules 31 = .ok (.getfield 18, 3) := by decide +kernel
theorem dd_CoastReader_keepRules_34 : decode c_CoastReader_keepRules 34 = .ok (.iconst 2, 1) := by decide +kernel
theorem dd_CoastReader_keepRules_35 : decode c_CoastReader_keepRules 35 = .ok (.iaload, 1) := by decide +kernel
theorem dd_CoastReader_keepRules_36 : decode c_CoastReader_keepRules 36 = .ok (.putfield 59, 3) := by decide +kernel
theorem dd_CoastReader_keepRules_39 : decode c_CoastReader_keepRules 39 = .ok (.aload_n 0, 1) := by decide +kernel
theorem dd_CoastReader_keepRules_40 : decode c_CoastReader_keepRules 40 = .ok (.getfield 12, 3) := by decide +kernel
theorem dd_CoastReader_keepRules_43 : decode c_CoastReader_keepRules 43 = .ok (.aload_n 0, 1) := by decide +kernel
theorem dd_CoastReader_keepRules_44 : decode c_CoastReader_keepRules 44 = .ok (.getfield 18, 3) := by decide +kernel
theorem dd_CoastReader_keepRules_47 : decode c_CoastReader_keepRules 47 = .ok (.iconst 3, 1) := by decide +kernel
theorem dd_CoastReader_keepRules_48 : decode c_CoastReader_keepRules 48 = .ok (.iaload, 1) := by decide +kernel
theorem dd_CoastReader_keepRules_49 : decode c_CoastReader_keepRules 49 = .ok (.putfield 120, 3) := by decide +kernel
theorem dd_CoastReader_keepRules_52 : decode c_CoastReader_keepRules 52 = .ok (.return_, 1) := by decide +kernel
theorem dd_CoastReader_itemAt_0 : decode c_CoastReader_itemAt 0 = .ok (.aload_n 0, 1) := by decide +kernel
theorem dd_CoastReader_itemAt_1 : decode c_CoastReader_itemAt 1 = .ok (.getfield 22, 3) := by decide +kernel
theorem dd_CoastReader_itemAt_4 : decode c_CoastReader_itemAt 4 = .ok (.invokevirtual 72, 3) := by decide +kernel
theorem dd_CoastReader_itemAt_7 : decode c_CoastReader_itemAt 7 = .ok (.istore 4, 2) := by decide +kernel
theorem dd_CoastReader_itemAt_9 : decode c_CoastReader_itemAt 9 = .ok (.iload_n 1, 1) := by decide +kernel
theorem dd_CoastReader_itemAt_10 : decode c_CoastReader_itemAt 10 = .ok (.istore 5, 2) := by decide +kernel
theorem dd_CoastReader_itemAt_12 : decode c_CoastReader_itemAt 12 = .ok (.iload 5, 2) := by decide +kernel
theorem dd_CoastReader_itemAt_14 : decode c_CoastReader_itemAt 14 = .ok (.iload_n 2, 1) := by decide +kernel
theorem dd_CoastReader_itemAt_15 : decode c_CoastReader_itemAt 15 = .ok (.if_icmp .ge 32, 3) := by decide +kernel
theorem dd_CoastReader_itemAt_18 : decode c_CoastReader_itemAt 18 = .ok (.getstatic 110, 3) := by decide +kernel
theorem dd_CoastReader_itemAt_21 : decode c_CoastReader_itemAt 21 = .ok (.iload 5, 2) := by decide +kernel
theorem dd_CoastReader_itemAt_23 : decode c_CoastReader_itemAt 23 = .ok (.caload, 1) := by decide +kernel
theorem dd_CoastReader_itemAt_24 : decode c_CoastReader_itemAt 24 = .ok (.iload 4, 2) := by decide +kernel
theorem dd_CoastReader_itemAt_26 : decode c_CoastReader_itemAt 26 = .ok (.if_icmp .ne 15, 3) := by decide +kernel
theorem dd_CoastReader_itemAt_29 : decode c_CoastReader_itemAt 29 = .ok (.iload_n 3, 1) := by decide +kernel
theorem dd_CoastReader_itemAt_30 : decode c_CoastReader_itemAt 30 = .ok (.iload 5, 2) := by decide +kernel
theorem dd_CoastReader_itemAt_32 : decode c_CoastReader_itemAt 32 = .ok (.ishr, 1) := by decide +kernel
theorem dd_CoastReader_itemAt_33 : decode c_CoastReader_itemAt 33 = .ok (.iconst 1, 1) := by decide +kernel
theorem dd_CoastReader_itemAt_34 : decode c_CoastReader_itemAt 34 = .ok (.iand, 1) := by decide +kernel
theorem dd_CoastReader_itemAt_35 : decode c_CoastReader_itemAt 35 = .ok (.ifCond .ne 6, 3) := by decide +kernel
theorem dd_CoastReader_itemAt_38 : decode c_CoastReader_itemAt 38 = .ok (.iload 5, 2) := by decide +kernel
theorem dd_CoastReader_itemAt_40 : decode c_CoastReader_itemAt 40 = .ok (.ireturn, 1) := by decide +kernel
theorem dd_CoastReader_itemAt_41 : decode c_CoastReader_itemAt 41 = .ok (.iinc 5 1, 3) := by decide +kernel
theorem dd_CoastReader_itemAt_44 : decode c_CoastReader_itemAt 44 = .ok (.goto (-32), 3) := by decide +kernel
theorem dd_CoastReader_itemAt_47 : decode c_CoastReader_itemAt 47 = .ok (.iconst (-1), 1) := by decide +kernel
theorem dd_CoastReader_itemAt_48 : decode c_CoastReader_itemAt 48 = .ok (.ireturn, 1) := by decide +kernel
theorem dd_CoastReader_readItems_0 : decode c_CoastReader_readItems 0 = .ok (.aload_n 0, 1) := by decide +kernel
theorem dd_CoastReader_readItems_1 : decode c_CoastReader_readItems 1 = .ok (.getfield 22, 3) := by decide +kernel
theorem dd_CoastReader_readItems_4 : decode c_CoastReader_readItems 4 = .ok (.dup, 1) := by decide +kernel
theorem dd_CoastReader_readItems_5 : decode c_CoastReader_readItems 5 = .ok (.getfield 85, 3) := by decide +kernel
theorem dd_CoastReader_readItems_8 : decode c_CoastReader_readItems 8 = .ok (.iconst 1, 1) := by decide +kernel
theorem dd_CoastReader_readItems_9 : decode c_CoastReader_readItems 9 = .ok (.iadd, 1) := by decide +kernel
theorem dd_CoastReader_readItems_10 : decode c_CoastReader_readItems 10 = .ok (.putfield 85, 3) := by decide +kernel
theorem dd_CoastReader_readItems_13 : decode c_CoastReader_readItems 13 = .ok (.aload_n 0, 1) := by decide +kernel
theorem dd_CoastReader_readItems_14 : decode c_CoastReader_readItems 14 = .ok (.iload_n 1, 1) := by decide +kernel
theorem dd_CoastReader_readItems_15 : decode c_CoastReader_readItems 15 = .ok (.iload_n 2, 1) := by decide +kernel
theorem dd_CoastReader_readItems_16 : decode c_CoastReader_readItems 16 = .ok (.invokevirtual 42, 3) := by decide +kernel
theorem dd_CoastReader_readItems_19 : decode c_CoastReader_readItems 19 = .ok (.iconst 0, 1) := by decide +kernel
theorem dd_CoastReader_readItems_20 : decode c_CoastReader_readItems 20 = .ok (.istore_n 3, 1) := by decide +kernel
theorem dd_CoastReader_readItems_21 : decode c_CoastReader_readItems 21 = .ok (.iload_n 1, 1) := by decide +kernel
theorem dd_CoastReader_readItems_22 : decode c_CoastReader_readItems 22 = .ok (.istore 4, 2) := by decide +kernel
theorem dd_CoastReader_readItems_24 : decode c_CoastReader_readItems 24 = .ok (.iload 4, 2) := by decide +kernel
theorem dd_CoastReader_readItems_26 : decode c_CoastReader_readItems 26 = .ok (.iload_n 2, 1) := by decide +kernel
theorem dd_CoastReader_readItems_27 : decode c_CoastReader_readItems 27 = .ok (.if_icmp .ge 72, 3) := by decide +kernel
theorem dd_CoastReader_readItems_30 : decode c_CoastReader_readItems 30 = .ok (.aload_n 0, 1) := by decide +kernel
theorem dd_CoastReader_readItems_31 : decode c_CoastReader_readItems 31 = .ok (.iload_n 1, 1) := by decide +kernel
theorem dd_CoastReader_readItems_32 : decode c_CoastReader_readItems 32 = .ok (.iload_n 2, 1) := by decide +kernel
theorem dd_CoastReader_readItems_33 : decode c_CoastReader_readItems 33 = .ok (.iload_n 3, 1) := by decide +kernel
theorem dd_CoastReader_readItems_34 : decode c_CoastReader_readItems 34 = .ok (.invokevirtual 97, 3) := by decide +kernel
theorem dd_CoastReader_readItems_37 : decode c_CoastReader_readItems 37 = .ok (.istore 5, 2) := by decide +kernel
theorem dd_CoastReader_readItems_39 : decode c_CoastReader_readItems 39 = .ok (.iload 5, 2) := by decide +kernel
theorem dd_CoastReader_readItems_41 : decode c_CoastReader_readItems 41 = .ok (.iconst (-1), 1) := by decide +kernel
theorem dd_CoastReader_readItems_42 : decode c_CoastReader_readItems 42 = .ok (.if_icmp .ne 4, 3) := by decide +kernel
theorem dd_CoastReader_readItems_45 : decode c_CoastReader_readItems 45 = .ok (.return_, 1) := by decide +kernel
theorem dd_CoastReader_readItems_46 : decode c_CoastReader_readItems 46 = .ok (.aload_n 0, 1) := by decide +kernel
theorem dd_CoastReader_readItems_47 : decode c_CoastReader_readItems 47 = .ok (.getfield 22, 3) := by decide +kernel
theorem dd_CoastReader_readItems_50 : decode c_CoastReader_readItems 50 = .ok (.dup, 1) := by decide +kernel
theorem dd_CoastReader_readItems_51 : decode c_CoastReader_readItems 51 = .ok (.getfield 85, 3) := by decide +kernel
theorem dd_CoastReader_readItems_54 : decode c_CoastReader_readItems 54 = .ok (.iconst 1, 1) := by decide +kernel
theorem dd_CoastReader_readItems_55 : decode c_CoastReader_readItems 55 = .ok (.iadd, 1) := by decide +kernel
theorem dd_CoastReader_readItems_56 : decode c_CoastReader_readItems 56 = .ok (.putfield 85, 3) := by decide +kernel
theorem dd_CoastReader_readItems_59 : decode c_CoastReader_readItems 59 = .ok (.iload_n 3, 1) := by decide +kernel
theorem dd_CoastReader_readItems_60 : decode c_CoastReader_readItems 60 = .ok (.iconst 1, 1) := by decide +kernel
theorem dd_CoastReader_readItems_61 : decode c_CoastReader_readItems 61 = .ok (.iload 5, 2) := by decide +kernel
theorem dd_CoastReader_readItems_63 : decode c_CoastReader_readItems 63 = .ok (.ishl, 1) := by decide +kernel
theorem dd_CoastReader_readItems_64 : decode c_CoastReader_readItems 64 = .ok (.ior, 1) := by decide +kernel
theorem dd_CoastReader_readItems_65 : decode c_CoastReader_readItems 65 = .ok (.istore_n 3, 1) := by decide +kernel
theorem dd_CoastReader_readItems_66 : decode c_CoastReader_readItems 66 = .ok (.aload_n 0, 1) := by decide +kernel
theorem dd_CoastReader_readItems_67 : decode c_CoastReader_readItems 67 = .ok (.getfield 18, 3) := by decide +kernel
theorem dd_CoastReader_readItems_70 : decode c_CoastReader_readItems 70 = .ok (.iload 5, 2) := by decide +kernel
theorem dd_CoastReader_readItems_72 : decode c_CoastReader_readItems 72 = .ok (.aload_n 0, 1) := by decide +kernel
theorem dd_CoastReader_readItems_73 : decode c_CoastReader_readItems 73 = .ok (.getfield 22, 3) := by decide +kernel
theorem dd_CoastReader_readItems_76 : decode c_CoastReader_readItems 76 = .ok (.iconst 2, 1) := by decide +kernel
theorem dd_CoastReader_readItems_77 : decode c_CoastReader_readItems 77 = .ok (.getstatic 101, 3) := by decide +kernel
theorem dd_CoastReader_readItems_80 : decode c_CoastReader_readItems 80 = .ok (.iload 5, 2) := by decide +kernel
theorem dd_CoastReader_readItems_82 : decode c_CoastReader_readItems 82 = .ok (.iaload, 1) := by decide +kernel
theorem dd_CoastReader_readItems_83 : decode c_CoastReader_readItems 83 = .ok (.getstatic 104, 3) := by decide +kernel
theorem dd_CoastReader_readItems_86 : decode c_CoastReader_readItems 86 = .ok (.iload 5, 2) := by decide +kernel
theorem dd_CoastReader_readItems_88 : decode c_CoastReader_readItems 88 = .ok (.iaload, 1) := by decide +kernel
theorem dd_CoastReader_readItems_89 : decode c_CoastReader_readItems 89 = .ok (.invokevirtual 107, 3) := by decide +kernel
theorem dd_CoastReader_readItems_92 : decode c_CoastReader_readItems 92 = .ok (.iastore, 1) := by decide +kernel
theorem dd_CoastReader_readItems_93 : decode c_CoastReader_readItems 93 = .ok (.iinc 4 1, 3) := by decide +kernel
theorem dd_CoastReader_readItems_96 : decode c_CoastReader_readItems 96 = .ok (.goto (-72), 3) := by decide +kernel
theorem dd_CoastReader_readItems_99 : decode c_CoastReader_readItems 99 = .ok (.return_, 1) := by decide +kernel
theorem dd_CoastReader_keepHouse_0 : decode c_CoastReader_keepHouse 0 = .ok (.aload_n 0, 1) := by decide +kernel
theorem dd_CoastReader_keepHouse_1 : decode c_CoastReader_keepHouse 1 = .ok (.getfield 12, 3) := by decide +kernel
theorem dd_CoastReader_keepHouse_4 : decode c_CoastReader_keepHouse 4 = .ok (.getfield 31, 3) := by decide +kernel
theorem dd_CoastReader_keepHouse_7 : decode c_CoastReader_keepHouse 7 = .ok (.istore_n 1, 1) := by decide +kernel
theorem dd_CoastReader_keepHouse_8 : decode c_CoastReader_keepHouse 8 = .ok (.aload_n 0, 1) := by decide +kernel
theorem dd_CoastReader_keepHouse_9 : decode c_CoastReader_keepHouse 9 = .ok (.getfield 12, 3) := by decide +kernel
theorem dd_CoastReader_keepHouse_12 : decode c_CoastReader_keepHouse 12 = .ok (.getfield 123, 3) := by decide +kernel
theorem dd_CoastReader_keepHouse_15 : decode c_CoastReader_keepHouse 15 = .ok (.iload_n 1, 1) := by decide +kernel
theorem dd_CoastReader_keepHouse_16 : decode c_CoastReader_keepHouse 16 = .ok (.aload_n 0, 1) := by decide +kernel
theorem dd_CoastReader_keepHouse_17 : decode c_CoastReader_keepHouse 17 = .ok (.getfield 18, 3) := by decide +kernel
theorem dd_CoastReader_keepHouse_20 : decode c_CoastReader_keepHouse 20 = .ok (.iconst 4, 1) := by decide +kernel
theorem dd_CoastReader_keepHouse_21 : decode c_CoastReader_keepHouse 21 = .ok (.iaload, 1) := by decide +kernel
theorem dd_CoastReader_keepHouse_22 : decode c_CoastReader_keepHouse 22 = .ok (.iastore, 1) := by decide +kernel
theorem dd_CoastReader_keepHouse_23 : decode c_CoastReader_keepHouse 23 = .ok (.aload_n 0, 1) := by decide +kernel
theorem dd_CoastReader_keepHouse_24 : decode c_CoastReader_keepHouse 24 = .ok (.getfield 12, 3) := by decide +kernel
theorem dd_CoastReader_keepHouse_27 : decode c_CoastReader_keepHouse 27 = .ok (.getfield 126, 3) := by decide +kernel
theorem dd_CoastReader_keepHouse_30 : decode c_CoastReader_keepHouse 30 = .ok (.iload_n 1, 1) := by decide +kernel
theorem dd_CoastReader_keepHouse_31 : decode c_CoastReader_keepHouse 31 = .ok (.aload_n 0, 1) := by decide +kernel
theorem dd_CoastReader_keepHouse_32 : decode c_CoastReader_keepHouse 32 = .ok (.getfield 18, 3) := by decide +kernel
theorem dd_CoastReader_keepHouse_35 : decode c_CoastReader_keepHouse 35 = .ok (.iconst 5, 1) := by decide +kernel
theorem dd_CoastReader_keepHouse_36 : decode c_CoastReader_keepHouse 36 = .ok (.iaload, 1) := by decide +kernel
theorem dd_CoastReader_keepHouse_37 : decode c_CoastReader_keepHouse 37 = .ok (.iastore, 1) := by decide +kernel
theorem dd_CoastReader_keepHouse_38 : decode c_CoastReader_keepHouse 38 = .ok (.aload_n 0, 1) := by decide +kernel
theorem dd_CoastReader_keepHouse_39 : decode c_CoastReader_keepHouse 39 = .ok (.getfield 12, 3) := by decide +kernel
theorem dd_CoastReader_keepHouse_42 : decode c_CoastReader_keepHouse 42 = .ok (.getfield 129, 3) := by decide +kernel
theorem dd_CoastReader_keepHouse_45 : decode c_CoastReader_keepHouse 45 = .ok (.iload_n 1, 1) := by decide +kernel
theorem dd_CoastReader_keepHouse_46 : decode c_CoastReader_keepHouse 46 = .ok (.aload_n 0, 1) := by decide +kernel
theorem dd_CoastReader_keepHouse_47 : decode c_CoastReader_keepHouse 47 = .ok (.getfield 18, 3) := by decide +kernel
theorem dd_CoastReader_keepHouse_50 : decode c_CoastReader_keepHouse 50 = .ok (.bipush 6, 2) := by decide +kernel
theorem dd_CoastReader_keepHouse_52 : decode c_CoastReader_keepHouse 52 = .ok (.iaload, 1) := by decide +kernel
theorem dd_CoastReader_keepHouse_53 : decode c_CoastReader_keepHouse 53 = .ok (.iastore, 1) := by decide +kernel
theorem dd_CoastReader_keepHouse_54 : decode c_CoastReader_keepHouse 54 = .ok (.aload_n 0, 1) := by decide +kernel
theorem dd_CoastReader_keepHouse_55 : decode c_CoastReader_keepHouse 55 = .ok (.getfield 12, 3) := by decide +kernel
theorem dd_CoastReader_keepHouse_58 : decode c_CoastReader_keepHouse 58 = .ok (.dup, 1) := by decide +kernel
theorem dd_CoastReader_keepHouse_59 : decode c_CoastReader_keepHouse 59 = .ok (.getfield 31, 3) := by decide +kernel
theorem dd_CoastReader_keepHouse_62 : decode c_CoastReader_keepHouse 62 = .ok (.iconst 1, 1) := by decide +kernel
theorem dd_CoastReader_keepHouse_63 : decode c_CoastReader_keepHouse 63 = .ok (.iadd, 1) := by decide +kernel
theorem dd_CoastReader_keepHouse_64 : decode c_CoastReader_keepHouse 64 = .ok (.putfield 31, 3) := by decide +kernel
theorem dd_CoastReader_keepHouse_67 : decode c_CoastReader_keepHouse 67 = .ok (.return_, 1) := by decide +kernel
theorem dd_CoastReader_keepTale_0 : decode c_CoastReader_keepTale 0 = .ok (.aload_n 0, 1) := by decide +kernel
theorem dd_CoastReader_keepTale_1 : decode c_CoastReader_keepTale 1 = .ok (.getfield 12, 3) := by decide +kernel
theorem dd_CoastReader_keepTale_4 : decode c_CoastReader_keepTale 4 = .ok (.getfield 35, 3) := by decide +kernel
theorem dd_CoastReader_keepTale_7 : decode c_CoastReader_keepTale 7 = .ok (.istore_n 1, 1) := by decide +kernel
theorem dd_CoastReader_keepTale_8 : decode c_CoastReader_keepTale 8 = .ok (.aload_n 0, 1) := by decide +kernel
theorem dd_CoastReader_keepTale_9 : decode c_CoastReader_keepTale 9 = .ok (.getfield 12, 3) := by decide +kernel
theorem dd_CoastReader_keepTale_12 : decode c_CoastReader_keepTale 12 = .ok (.getfield 132, 3) := by decide +kernel
theorem dd_CoastReader_keepTale_15 : decode c_CoastReader_keepTale 15 = .ok (.iload_n 1, 1) := by decide +kernel
theorem dd_CoastReader_keepTale_16 : decode c_CoastReader_keepTale 16 = .ok (.aload_n 0, 1) := by decide +kernel
theorem dd_CoastReader_keepTale_17 : decode c_CoastReader_keepTale 17 = .ok (.getfield 18, 3) := by decide +kernel
theorem dd_CoastReader_keepTale_20 : decode c_CoastReader_keepTale 20 = .ok (.bipush 7, 2) := by decide +kernel
theorem dd_CoastReader_keepTale_22 : decode c_CoastReader_keepTale 22 = .ok (.iaload, 1) := by decide +kernel
theorem dd_CoastReader_keepTale_23 : decode c_CoastReader_keepTale 23 = .ok (.iastore, 1) := by decide +kernel
theorem dd_CoastReader_keepTale_24 : decode c_CoastReader_keepTale 24 = .ok (.aload_n 0, 1) := by decide +kernel
theorem dd_CoastReader_keepTale_25 : decode c_CoastReader_keepTale 25 = .ok (.getfield 12, 3) := by decide +kernel
theorem dd_CoastReader_keepTale_28 : decode c_CoastReader_keepTale 28 = .ok (.getfield 135, 3) := by decide +kernel
theorem dd_CoastReader_keepTale_31 : decode c_CoastReader_keepTale 31 = .ok (.iload_n 1, 1) := by decide +kernel
theorem dd_CoastReader_keepTale_32 : decode c_CoastReader_keepTale 32 = .ok (.aload_n 0, 1) := by decide +kernel
theorem dd_CoastReader_keepTale_33 : decode c_CoastReader_keepTale 33 = .ok (.getfield 18, 3) := by decide +kernel
theorem dd_CoastReader_keepTale_36 : decode c_CoastReader_keepTale 36 = .ok (.bipush 8, 2) := by decide +kernel
theorem dd_CoastReader_keepTale_38 : decode c_CoastReader_keepTale 38 = .ok (.iaload, 1) := by decide +kernel
theorem dd_CoastReader_keepTale_39 : decode c_CoastReader_keepTale 39 = .ok (.iastore, 1) := by decide +kernel
theorem dd_CoastReader_keepTale_40 : decode c_CoastReader_keepTale 40 = .ok (.aload_n 0, 1) := by decide +kernel
theorem dd_CoastReader_keepTale_41 : decode c_CoastReader_keepTale 41 = .ok (.getfield 12, 3) := by decide +kernel
theorem dd_CoastReader_keepTale_44 : decode c_CoastReader_keepTale 44 = .ok (.getfield 138, 3) := by decide +kernel
theorem dd_CoastReader_keepTale_47 : decode c_CoastReader_keepTale 47 = .ok (.iload_n 1, 1) := by decide +kernel
theorem dd_CoastReader_keepTale_48 : decode c_CoastReader_keepTale 48 = .ok (.aload_n 0, 1) := by decide +kernel
theorem dd_CoastReader_keepTale_49 : decode c_CoastReader_keepTale 49 = .ok (.getfield 18, 3) := by decide +kernel
theorem dd_CoastReader_keepTale_52 : decode c_CoastReader_keepTale 52 = .ok (.bipush 9, 2) := by decide +kernel
theorem dd_CoastReader_keepTale_54 : decode c_CoastReader_keepTale 54 = .ok (.iaload, 1) := by decide +kernel
theorem dd_CoastReader_keepTale_55 : decode c_CoastReader_keepTale 55 = .ok (.iastore, 1) := by decide +kernel
theorem dd_CoastReader_keepTale_56 : decode c_CoastReader_keepTale 56 = .ok (.aload_n 0, 1) := by decide +kernel
theorem dd_CoastReader_keepTale_57 : decode c_CoastReader_keepTale 57 = .ok (.getfield 12, 3) := by decide +kernel
theorem dd_CoastReader_keepTale_60 : decode c_CoastReader_keepTale 60 = .ok (.dup, 1) := by decide +kernel
theorem dd_CoastReader_keepTale_61 : decode c_CoastReader_keepTale 61 = .ok (.getfield 35, 3) := by decide +kernel
theorem dd_CoastReader_keepTale_64 : decode c_CoastReader_keepTale 64 = .ok (.iconst 1, 1) := by decide +kernel
theorem dd_CoastReader_keepTale_65 : decode c_CoastReader_keepTale 65 = .ok (.iadd, 1) := by decide +kernel
theorem dd_CoastReader_keepTale_66 : decode c_CoastReader_keepTale 66 = .ok (.putfield 35, 3) := by decide +kernel
theorem dd_CoastReader_keepTale_69 : decode c_CoastReader_keepTale 69 = .ok (.return_, 1) := by decide +kernel
theorem dd_CoastReader_readClause_0 : decode c_CoastReader_readClause 0 = .ok (.aload_n 0, 1) := by decide +kernel
theorem dd_CoastReader_readClause_1 : decode c_CoastReader_readClause 1 = .ok (.getfield 22, 3) := by decide +kernel
theorem dd_CoastReader_readClause_4 : decode c_CoastReader_readClause 4 = .ok (.invokevirtual 72, 3) := by decide +kernel
theorem dd_CoastReader_readClause_7 : decode c_CoastReader_readClause 7 = .ok (.istore_n 1, 1) := by decide +kernel
theorem dd_CoastReader_readClause_8 : decode c_CoastReader_readClause 8 = .ok (.iload_n 1, 1) := by decide +kernel
theorem dd_CoastReader_readClause_9 : decode c_CoastReader_readClause 9 = .ok (.bipush 115, 2) := by decide +kernel
theorem dd_CoastReader_readClause_11 : decode c_CoastReader_readClause 11 = .ok (.if_icmp .ne 28, 3) := by decide +kernel
theorem dd_CoastReader_readClause_14 : decode c_CoastReader_readClause 14 = .ok (.aload_n 0, 1) := by decide +kernel
theorem dd_CoastReader_readClause_15 : decode c_CoastReader_readClause 15 = .ok (.getfield 38, 3) := by decide +kernel
theorem dd_CoastReader_readClause_18 : decode c_CoastReader_readClause 18 = .ok (.ifCond .ne 21, 3) := by decide +kernel
theorem dd_CoastReader_readClause_21 : decode c_CoastReader_readClause 21 = .ok (.aload_n 0, 1) := by decide +kernel
theorem dd_CoastReader_readClause_22 : decode c_CoastReader_readClause 22 = .ok (.iconst 1, 1) := by decide +kernel
theorem dd_CoastReader_readClause_23 : decode c_CoastReader_readClause 23 = .ok (.putfield 38, 3) := by decide +kernel
theorem dd_CoastReader_readClause_26 : decode c_CoastReader_readClause 26 = .ok (.aload_n 0, 1) := by decide +kernel
theorem dd_CoastReader_readClause_27 : decode c_CoastReader_readClause 27 = .ok (.iconst 0, 1) := by decide +kernel
theorem dd_CoastReader_readClause_28 : decode c_CoastReader_readClause 28 = .ok (.iconst 4, 1) := by decide +kernel
theorem dd_CoastReader_readClause_29 : decode c_CoastReader_readClause 29 = .ok (.invokevirtual 76, 3) := by decide +kernel
theorem dd_CoastReader_readClause_32 : decode c_CoastReader_readClause 32 = .ok (.aload_n 0, 1) := by decide +kernel
theorem dd_CoastReader_readClause_33 : decode c_CoastReader_readClause 33 = .ok (.invokevirtual 46, 3) := by decide +kernel
theorem dd_CoastReader_readClause_36 : decode c_CoastReader_readClause 36 = .ok (.goto 82, 3) := by decide +kernel
theorem dd_CoastReader_readClause_39 : decode c_CoastReader_readClause 39 = .ok (.iload_n 1, 1) := by decide +kernel
theorem dd_CoastReader_readClause_40 : decode c_CoastReader_readClause 40 = .ok (.bipush 104, 2) := by decide +kernel
theorem dd_CoastReader_readClause_42 : decode c_CoastReader_readClause 42 = .ok (.if_icmp .ne 29, 3) := by decide +kernel
theorem dd_CoastReader_readClause_45 : decode c_CoastReader_readClause 45 = .ok (.aload_n 0, 1) := by decide +kernel
theorem dd_CoastReader_readClause_46 : decode c_CoastReader_readClause 46 = .ok (.getfield 12, 3) := by decide +kernel
theorem dd_CoastReader_readClause_49 : decode c_CoastReader_readClause 49 = .ok (.getfield 31, 3) := by decide +kernel
theorem dd_CoastReader_readClause_52 : decode c_CoastReader_readClause 52 = .ok (.bipush 6, 2) := by decide +kernel
theorem dd_CoastReader_readClause_54 : decode c_CoastReader_readClause 54 = .ok (.if_icmp .ge 17, 3) := by decide +kernel
theorem dd_CoastReader_readClause_57 : decode c_CoastReader_readClause 57 = .ok (.aload_n 0, 1) := by decide +kernel
theorem dd_CoastReader_readClause_58 : decode c_CoastReader_readClause 58 = .ok (.iconst 4, 1) := by decide +kernel
theorem dd_CoastReader_readClause_59 : decode c_CoastReader_readClause 59 = .ok (.bipush 7, 2) := by decide +kernel
theorem dd_CoastReader_readClause_61 : decode c_CoastReader_readClause 61 = .ok (.invokevirtual 76, 3) := by decide +kernel
theorem dd_CoastReader_readClause_64 : decode c_CoastReader_readClause 64 = .ok (.aload_n 0, 1) := by decide +kernel
theorem dd_CoastReader_readClause_65 : decode c_CoastReader_readClause 65 = .ok (.invokevirtual 79, 3) := by decide +kernel
theorem dd_CoastReader_readClause_68 : decode c_CoastReader_readClause 68 = .ok (.goto 50, 3) := by decide +kernel
theorem dd_CoastReader_readClause_71 : decode c_CoastReader_readClause 71 = .ok (.iload_n 1, 1) := by decide +kernel
theorem dd_CoastReader_readClause_72 : decode c_CoastReader_readClause 72 = .ok (.bipush 116, 2) := by decide +kernel
theorem dd_CoastReader_readClause_74 : decode c_CoastReader_readClause 74 = .ok (.if_icmp .ne 30, 3) := by decide +kernel
theorem dd_CoastReader_readClause_77 : decode c_CoastReader_readClause 77 = .ok (.aload_n 0, 1) := by decide +kernel
theorem dd_CoastReader_readClause_78 : decode c_CoastReader_readClause 78 = .ok (.getfield 12, 3) := by decide +kernel
theorem dd_CoastReader_readClause_81 : decode c_CoastReader_readClause 81 = .ok (.getfield 35, 3) := by decide +kernel
theorem dd_CoastReader_readClause_84 : decode c_CoastReader_readClause 84 = .ok (.bipush 6, 2) := by decide +kernel
theorem dd_CoastReader_readClause_86 : decode c_CoastReader_readClause 86 = .ok (.if_icmp .ge 18, 3) := by decide +kernel
theorem dd_CoastReader_readClause_89 : decode c_CoastReader_readClause 89 = .ok (.aload_n 0, 1) := by decide +kernel
theorem dd_CoastReader_readClause_90 : decode c_CoastReader_readClause 90 = .ok (.bipush 7, 2) := by decide +kernel
theorem dd_CoastReader_readClause_92 : decode c_CoastReader_readClause 92 = .ok (.bipush 10, 2) := by decide +kernel
theorem dd_CoastReader_readClause_94 : decode c_CoastReader_readClause 94 = .ok (.invokevirtual 76, 3) := by decide +kernel
theorem dd_CoastReader_readClause_97 : decode c_CoastReader_readClause 97 = .ok (.aload_n 0, 1) := by decide +kernel
theorem dd_CoastReader_readClause_98 : decode c_CoastReader_readClause 98 = .ok (.invokevirtual 82, 3) := by decide +kernel
theorem dd_CoastReader_readClause_101 : decode c_CoastReader_readClause 101 = .ok (.goto 17, 3) := by decide +kernel
theorem dd_CoastReader_readClause_104 : decode c_CoastReader_readClause 104 = .ok (.aload_n 0, 1) := by decide +kernel
theorem dd_CoastReader_readClause_105 : decode c_CoastReader_readClause 105 = .ok (.getfield 22, 3) := by decide +kernel
theorem dd_CoastReader_readClause_108 : decode c_CoastReader_readClause 108 = .ok (.aload_n 0, 1) := by decide +kernel
theorem dd_CoastReader_readClause_109 : decode c_CoastReader_readClause 109 = .ok (.getfield 22, 3) := by decide +kernel
theorem dd_CoastReader_readClause_112 : decode c_CoastReader_readClause 112 = .ok (.getfield 85, 3) := by decide +kernel
theorem dd_CoastReader_readClause_115 : decode c_CoastReader_readClause 115 = .ok (.invokevirtual 65, 3) := by decide +kernel
theorem dd_CoastReader_readClause_118 : decode c_CoastReader_readClause 118 = .ok (.return_, 1) := by decide +kernel
theorem dd_CoastReader_read_0 : decode c_CoastReader_read 0 = .ok (.aload_n 0, 1) := by decide +kernel
theorem dd_CoastReader_read_1 : decode c_CoastReader_read 1 = .ok (.getfield 22, 3) := by decide +kernel
theorem dd_CoastReader_read_4 : decode c_CoastReader_read 4 = .ok (.invokevirtual 26, 3) := by decide +kernel
theorem dd_CoastReader_read_7 : decode c_CoastReader_read 7 = .ok (.aload_n 0, 1) := by decide +kernel
theorem dd_CoastReader_read_8 : decode c_CoastReader_read 8 = .ok (.getfield 12, 3) := by decide +kernel
theorem dd_CoastReader_read_11 : decode c_CoastReader_read 11 = .ok (.iconst 0, 1) := by decide +kernel
theorem dd_CoastReader_read_12 : decode c_CoastReader_read 12 = .ok (.putfield 31, 3) := by decide +kernel
theorem dd_CoastReader_read_15 : decode c_CoastReader_read 15 = .ok (.aload_n 0, 1) := by decide +kernel
theorem dd_CoastReader_read_16 : decode c_CoastReader_read 16 = .ok (.getfield 12, 3) := by decide +kernel
theorem dd_CoastReader_read_19 : decode c_CoastReader_read 19 = .ok (.iconst 0, 1) := by decide +kernel
theorem dd_CoastReader_read_20 : decode c_CoastReader_read 20 = .ok (.putfield 35, 3) := by decide +kernel
theorem dd_CoastReader_read_23 : decode c_CoastReader_read 23 = .ok (.aload_n 0, 1) := by decide +kernel
theorem dd_CoastReader_read_24 : decode c_CoastReader_read 24 = .ok (.iconst 0, 1) := by decide +kernel
theorem dd_CoastReader_read_25 : decode c_CoastReader_read 25 = .ok (.putfield 38, 3) := by decide +kernel
theorem dd_CoastReader_read_28 : decode c_CoastReader_read 28 = .ok (.aload_n 0, 1) := by decide +kernel
theorem dd_CoastReader_read_29 : decode c_CoastReader_read 29 = .ok (.iconst 0, 1) := by decide +kernel
theorem dd_CoastReader_read_30 : decode c_CoastReader_read 30 = .ok (.iconst 4, 1) := by decide +kernel
theorem dd_CoastReader_read_31 : decode c_CoastReader_read 31 = .ok (.invokevirtual 42, 3) := by decide +kernel
theorem dd_CoastReader_read_34 : decode c_CoastReader_read 34 = .ok (.aload_n 0, 1) := by decide +kernel
theorem dd_CoastReader_read_35 : decode c_CoastReader_read 35 = .ok (.invokevirtual 46, 3) := by decide +kernel
theorem dd_CoastReader_read_38 : decode c_CoastReader_read 38 = .ok (.aload_n 0, 1) := by decide +kernel
theorem dd_CoastReader_read_39 : decode c_CoastReader_read 39 = .ok (.invokevirtual 49, 3) := by decide +kernel
theorem dd_CoastReader_read_42 : decode c_CoastReader_read 42 = .ok (.iconst 0, 1) := by decide +kernel
theorem dd_CoastReader_read_43 : decode c_CoastReader_read 43 = .ok (.istore_n 1, 1) := by decide +kernel
theorem dd_CoastReader_read_44 : decode c_CoastReader_read 44 = .ok (.iload_n 1, 1) := by decide +kernel
theorem dd_CoastReader_read_45 : decode c_CoastReader_read 45 = .ok (.sipush 240, 3) := by decide +kernel
theorem dd_CoastReader_read_48 : decode c_CoastReader_read 48 = .ok (.if_icmp .ge 25, 3) := by decide +kernel
theorem dd_CoastReader_read_51 : decode c_CoastReader_read 51 = .ok (.aload_n 0, 1) := by decide +kernel
theorem dd_CoastReader_read_52 : decode c_CoastReader_read 52 = .ok (.getfield 22, 3) := by decide +kernel
theorem dd_CoastReader_read_55 : decode c_CoastReader_read 55 = .ok (.bipush 59, 2) := by decide +kernel
theorem dd_CoastReader_read_57 : decode c_CoastReader_read 57 = .ok (.invokevirtual 52, 3) := by decide +kernel
theorem dd_CoastReader_read_60 : decode c_CoastReader_read 60 = .ok (.ifCond .eq 13, 3) := by decide +kernel
theorem dd_CoastReader_read_63 : decode c_CoastReader_read 63 = .ok (.aload_n 0, 1) := by decide +kernel
theorem dd_CoastReader_read_64 : decode c_CoastReader_read 64 = .ok (.invokevirtual 49, 3) := by decide +kernel
theorem dd_CoastReader_read_67 : decode c_CoastReader_read 67 = .ok (.iinc 1 1, 3) := by decide +kernel
theorem dd_CoastReader_read_70 : decode c_CoastReader_read 70 = .ok (.goto (-26), 3) := by decide +kernel
theorem dd_CoastReader_read_73 : decode c_CoastReader_read 73 = .ok (.aload_n 0, 1) := by decide +kernel
theorem dd_CoastReader_read_74 : decode c_CoastReader_read 74 = .ok (.getfield 22, 3) := by decide +kernel
theorem dd_CoastReader_read_77 : decode c_CoastReader_read 77 = .ok (.invokevirtual 56, 3) := by decide +kernel
theorem dd_CoastReader_read_80 : decode c_CoastReader_read 80 = .ok (.aload_n 0, 1) := by decide +kernel
theorem dd_CoastReader_read_81 : decode c_CoastReader_read 81 = .ok (.getfield 12, 3) := by decide +kernel
theorem dd_CoastReader_read_84 : decode c_CoastReader_read 84 = .ok (.getfield 31, 3) := by decide +kernel
theorem dd_CoastReader_read_87 : decode c_CoastReader_read 87 = .ok (.iconst 2, 1) := by decide +kernel
theorem dd_CoastReader_read_88 : decode c_CoastReader_read 88 = .ok (.if_icmp .lt 31, 3) := by decide +kernel
theorem dd_CoastReader_read_91 : decode c_CoastReader_read 91 = .ok (.aload_n 0, 1) := by decide +kernel
theorem dd_CoastReader_read_92 : decode c_CoastReader_read 92 = .ok (.getfield 12, 3) := by decide +kernel
theorem dd_CoastReader_read_95 : decode c_CoastReader_read 95 = .ok (.getfield 35, 3) := by decide +kernel
theorem dd_CoastReader_read_98 : decode c_CoastReader_read 98 = .ok (.iconst 1, 1) := by decide +kernel
theorem dd_CoastReader_read_99 : decode c_CoastReader_read 99 = .ok (.if_icmp .lt 20, 3) := by decide +kernel
theorem dd_CoastReader_read_102 : decode c_CoastReader_read 102 = .ok (.aload_n 0, 1) := by decide +kernel
theorem dd_CoastReader_read_103 : decode c_CoastReader_read 103 = .ok (.getfield 12, 3) := by decide +kernel
theorem dd_CoastReader_read_106 : decode c_CoastReader_read 106 = .ok (.getfield 59, 3) := by decide +kernel
theorem dd_CoastReader_read_109 : decode c_CoastReader_read 109 = .ok (.aload_n 0, 1) := by decide +kernel
theorem dd_CoastReader_read_110 : decode c_CoastReader_read 110 = .ok (.getfield 12, 3) := by decide +kernel
theorem dd_CoastReader_read_113 : decode c_CoastReader_read 113 = .ok (.getfield 31, 3) := by decide +kernel
theorem dd_CoastReader_read_116 : decode c_CoastReader_read 116 = .ok (.if_icmp .lt 17, 3) := by decide +kernel
theorem dd_CoastReader_read_119 : decode c_CoastReader_read 119 = .ok (.aload_n 0, 1) := by decide +kernel
theorem dd_CoastReader_read_120 : decode c_CoastReader_read 120 = .ok (.getfield 22, 3) := by decide +kernel
theorem dd_CoastReader_read_123 : decode c_CoastReader_read 123 = .ok (.aload_n 0, 1) := by decide +kernel
theorem dd_CoastReader_read_124 : decode c_CoastReader_read 124 = .ok (.getfield 22, 3) := by decide +kernel
theorem dd_CoastReader_read_127 : decode c_CoastReader_read 127 = .ok (.getfield 62, 3) := by decide +kernel
theorem dd_CoastReader_read_130 : decode c_CoastReader_read 130 = .ok (.invokevirtual 65, 3) := by decide +kernel
theorem dd_CoastReader_read_133 : decode c_CoastReader_read 133 = .ok (.aload_n 0, 1) := by decide +kernel
theorem dd_CoastReader_read_134 : decode c_CoastReader_read 134 = .ok (.getfield 22, 3) := by decide +kernel
theorem dd_CoastReader_read_137 : decode c_CoastReader_read 137 = .ok (.getfield 69, 3) := by decide +kernel
theorem dd_CoastReader_read_140 : decode c_CoastReader_read 140 = .ok (.ireturn, 1) := by decide +kernel
theorem dd_W_fault_0 : decode c_W_fault 0 = .ok (.iload_n 1, 1) := by decide +kernel
theorem dd_W_fault_1 : decode c_W_fault 1 = .ok (.ifCond .ne 11, 3) := by decide +kernel
theorem dd_W_fault_4 : decode c_W_fault 4 = .ok (.aload_n 0, 1) := by decide +kernel
theorem dd_W_fault_5 : decode c_W_fault 5 = .ok (.getfield 21, 3) := by decide +kernel
theorem dd_W_fault_8 : decode c_W_fault 8 = .ok (.invokevirtual 113, 3) := by decide +kernel
theorem dd_W_fault_11 : decode c_W_fault 11 = .ok (.ireturn, 1) := by decide +kernel
theorem dd_W_fault_12 : decode c_W_fault 12 = .ok (.iload_n 1, 1) := by decide +kernel
theorem dd_W_fault_13 : decode c_W_fault 13 = .ok (.iconst 1, 1) := by decide +kernel
theorem dd_W_fault_14 : decode c_W_fault 14 = .ok (.if_icmp .ne 13, 3) := by decide +kernel
theorem dd_W_fault_17 : decode c_W_fault 17 = .ok (.aload_n 0, 1) := by decide +kernel
theorem dd_W_fault_18 : decode c_W_fault 18 = .ok (.getfield 28, 3) := by decide +kernel
theorem dd_W_fault_21 : decode c_W_fault 21 = .ok (.invokevirtual 117, 3) := by decide +kernel
theorem dd_W_fault_24 : decode c_W_fault 24 = .ok (.goto 5, 3) := by decide +kernel
theorem dd_W_fault_27 : decode c_W_fault 27 = .ok (.bipush (-2), 2) := by decide +kernel
theorem dd_W_fault_29 : decode c_W_fault 29 = .ok (.ireturn, 1) := by decide +kernel
theorem dd_M_open_0 : decode c_M_open 0 = .ok (.aload_n 0, 1) := by decide +kernel
theorem dd_M_open_1 : decode c_M_open 1 = .ok (.iload_n 1, 1) := by decide +kernel
theorem dd_M_open_2 : decode c_M_open 2 = .ok (.putfield 110, 3) := by decide +kernel
theorem dd_M_open_5 : decode c_M_open 5 = .ok (.aload_n 0, 1) := by decide +kernel
theorem dd_M_open_6 : decode c_M_open 6 = .ok (.iconst 0, 1) := by decide +kernel
theorem dd_M_open_7 : decode c_M_open 7 = .ok (.putfield 100, 3) := by decide +kernel
theorem dd_M_open_10 : decode c_M_open 10 = .ok (.aload_n 0, 1) := by decide +kernel
theorem dd_M_open_11 : decode c_M_open 11 = .ok (.iconst (-1), 1) := by decide +kernel
theorem dd_M_open_12 : decode c_M_open 12 = .ok (.putfield 107, 3) := by decide +kernel
theorem dd_M_open_15 : decode c_M_open 15 = .ok (.aload_n 0, 1) := by decide +kernel
theorem dd_M_open_16 : decode c_M_open 16 = .ok (.iconst 0, 1) := by decide +kernel
theorem dd_M_open_17 : decode c_M_open 17 = .ok (.putfield 113, 3) := by decide +kernel
theorem dd_M_open_20 : decode c_M_open 20 = .ok (.aload_n 0, 1) := by decide +kernel
theorem dd_M_open_21 : decode c_M_open 21 = .ok (.getfield 19, 3) := by decide +kernel
theorem dd_M_open_24 : decode c_M_open 24 = .ok (.iload_n 1, 1) := by decide +kernel
theorem dd_M_open_25 : decode c_M_open 25 = .ok (.iconst 0, 1) := by decide +kernel
theorem dd_M_open_26 : decode c_M_open 26 = .ok (.iastore, 1) := by decide +kernel
theorem dd_M_open_27 : decode c_M_open 27 = .ok (.aload_n 0, 1) := by decide +kernel
theorem dd_M_open_28 : decode c_M_open 28 = .ok (.getfield 22, 3) := by decide +kernel
theorem dd_M_open_31 : decode c_M_open 31 = .ok (.iload_n 1, 1) := by decide +kernel
theorem dd_M_open_32 : decode c_M_open 32 = .ok (.iconst 0, 1) := by decide +kernel
theorem dd_M_open_33 : decode c_M_open 33 = .ok (.iastore, 1) := by decide +kernel
theorem dd_M_open_34 : decode c_M_open 34 = .ok (.return_, 1) := by decide +kernel
theorem dd_M_here_0 : decode c_M_here 0 = .ok (.aload_n 0, 1) := by decide +kernel
theorem dd_M_here_1 : decode c_M_here 1 = .ok (.getfield 100, 3) := by decide +kernel
theorem dd_M_here_4 : decode c_M_here 4 = .ok (.aload_n 0, 1) := by decide +kernel
theorem dd_M_here_5 : decode c_M_here 5 = .ok (.getfield 97, 3) := by decide +kernel
theorem dd_M_here_8 : decode c_M_here 8 = .ok (.if_icmp .ge 15, 3) := by decide +kernel
theorem dd_M_here_11 : decode c_M_here 11 = .ok (.aload_n 0, 1) := by decide +kernel
theorem dd_M_here_12 : decode c_M_here 12 = .ok (.getfield 9, 3) := by decide +kernel
theorem dd_M_here_15 : decode c_M_here 15 = .ok (.aload_n 0, 1) := by decide +kernel
theorem dd_M_here_16 : decode c_M_here 16 = .ok (.getfield 100, 3) := by decide +kernel
theorem dd_M_here_19 : decode c_M_here 19 = .ok (.iaload, 1) := by decide +kernel
theorem dd_M_here_20 : decode c_M_here 20 = .ok (.goto 4, 3) := by decide +kernel
theorem dd_M_here_23 : decode c_M_here 23 = .ok (.iconst (-1), 1) := by decide +kernel
theorem dd_M_here_24 : decode c_M_here 24 = .ok (.ireturn, 1) := by decide +kernel
theorem dd_M_look_0 : decode c_M_look 0 = .ok (.aload_n 0, 1) := by decide +kernel
theorem dd_M_look_1 : decode c_M_look 1 = .ok (.invokevirtual 103, 3) := by decide +kernel
theorem dd_M_look_4 : decode c_M_look 4 = .ok (.bipush 32, 2) := by decide +kernel
theorem dd_M_look_6 : decode c_M_look 6 = .ok (.if_icmp .ne 16, 3) := by decide +kernel
theorem dd_M_look_9 : decode c_M_look 9 = .ok (.aload_n 0, 1) := by decide +kernel
theorem dd_M_look_10 : decode c_M_look 10 = .ok (.dup, 1) := by decide +kernel
theorem dd_M_look_11 : decode c_M_look 11 = .ok (.getfield 100, 3) := by decide +kernel
theorem dd_M_look_14 : decode c_M_look 14 = .ok (.iconst 1, 1) := by decide +kernel
theorem dd_M_look_15 : decode c_M_look 15 = .ok (.iadd, 1) := by decide +kernel
theorem dd_M_look_16 : decode c_M_look 16 = .ok (.putfield 100, 3) := by decide +kernel
theorem dd_M_look_19 : decode c_M_look 19 = .ok (.goto (-19), 3) := by decide +kernel
theorem dd_M_look_22 : decode c_M_look 22 = .ok (.aload_n 0, 1) := by decide +kernel
theorem dd_M_look_23 : decode c_M_look 23 = .ok (.invokevirtual 103, 3) := by decide +kernel
theorem dd_M_look_26 : decode c_M_look 26 = .ok (.ireturn, 1) := by decide +kernel
theorem dd_M_bad_0 : decode c_M_bad 0 = .ok (.aload_n 0, 1) := by decide +kernel
theorem dd_M_bad_1 : decode c_M_bad 1 = .ok (.aload_n 0, 1) := by decide +kernel
theorem dd_M_bad_2 : decode c_M_bad 2 = .ok (.getfield 107, 3) := by decide +kernel
theorem dd_M_bad_5 : decode c_M_bad 5 = .ok (.iconst (-1), 1) := by decide +kernel
theorem dd_M_bad_6 : decode c_M_bad 6 = .ok (.if_icmp .ne 10, 3) := by decide +kernel
theorem dd_M_bad_9 : decode c_M_bad 9 = .ok (.aload_n 0, 1) := by decide +kernel
theorem dd_M_bad_10 : decode c_M_bad 10 = .ok (.getfield 100, 3) := by decide +kernel
theorem dd_M_bad_13 : decode c_M_bad 13 = .ok (.goto 7, 3) := by decide +kernel
theorem dd_M_bad_16 : decode c_M_bad 16 = .ok (.aload_n 0, 1) := by decide +kernel
theorem dd_M_bad_17 : decode c_M_bad 17 = .ok (.getfield 107, 3) := by decide +kernel
theorem dd_M_bad_20 : decode c_M_bad 20 = .ok (.putfield 107, 3) := by decide +kernel
theorem dd_M_bad_23 : decode c_M_bad 23 = .ok (.return_, 1) := by decide +kernel
theorem dd_M_isDigit_0 : decode c_M_isDigit 0 = .ok (.iload_n 0, 1) := by decide +kernel
theorem dd_M_isDigit_1 : decode c_M_isDigit 1 = .ok (.bipush 48, 2) := by decide +kernel
theorem dd_M_isDigit_3 : decode c_M_isDigit 3 = .ok (.if_icmp .lt 13, 3) := by decide +kernel
theorem dd_M_isDigit_6 : decode c_M_isDigit 6 = .ok (.iload_n 0, 1) := by decide +kernel
theorem dd_M_isDigit_7 : decode c_M_isDigit 7 = .ok (.bipush 57, 2) := by decide +kernel
theorem dd_M_isDigit_9 : decode c_M_isDigit 9 = .ok (.if_icmp .gt 7, 3) := by decide +kernel
theorem dd_M_isDigit_12 : decode c_M_isDigit 12 = .ok (.iconst 1, 1) := by decide +kernel
theorem dd_M_isDigit_13 : decode c_M_isDigit 13 = .ok (.goto 4, 3) := by decide +kernel
theorem dd_M_isDigit_16 : decode c_M_isDigit 16 = .ok (.iconst 0, 1) := by decide +kernel
theorem dd_M_isDigit_17 : decode c_M_isDigit 17 = .ok (.ireturn, 1) := by decide +kernel
theorem dd_M_letterOf_0 : decode c_M_letterOf 0 = .ok (.iload_n 0, 1) := by decide +kernel
theorem dd_M_letterOf_1 : decode c_M_letterOf 1 = .ok (.bipush 108, 2) := by decide +kernel
theorem dd_M_letterOf_3 : decode c_M_letterOf 3 = .ok (.if_icmp .ne 7, 3) := by decide +kernel
theorem dd_M_letterOf_6 : decode c_M_letterOf 6 = .ok (.iconst 0, 1) := by decide +kernel
theorem dd_M_letterOf_7 : decode c_M_letterOf 7 = .ok (.goto 54, 3) := by decide +kernel
theorem dd_M_letterOf_10 : decode c_M_letterOf 10 = .ok (.iload_n 0, 1) := by decide +kernel
theorem dd_M_letterOf_11 : decode c_M_letterOf 11 = .ok (.bipush 107, 2) := by decide +kernel
theorem dd_M_letterOf_13 : decode c_M_letterOf 13 = .ok (.if_icmp .ne 7, 3) := by decide +kernel
theorem dd_M_letterOf_16 : decode c_M_letterOf 16 = .ok (.iconst 1, 1) := by decide +kernel
theorem dd_M_letterOf_17 : decode c_M_letterOf 17 = .ok (.goto 44, 3) := by decide +kernel
theorem dd_M_letterOf_20 : decode c_M_letterOf 20 = .ok (.iload_n 0, 1) := by decide +kernel
theorem dd_M_letterOf_21 : decode c_M_letterOf 21 = .ok (.bipush 99, 2) := by decide +kernel
theorem dd_M_letterOf_23 : decode c_M_letterOf 23 = .ok (.if_icmp .ne 7, 3) := by decide +kernel
theorem dd_M_letterOf_26 : decode c_M_letterOf 26 = .ok (.iconst 2, 1) := by decide +kernel
theorem dd_M_letterOf_27 : decode c_M_letterOf 27 = .ok (.goto 34, 3) := by decide +kernel
theorem dd_M_letterOf_30 : decode c_M_letterOf 30 = .ok (.iload_n 0, 1) := by decide +kernel
theorem dd_M_letterOf_31 : decode c_M_letterOf 31 = .ok (.bipush 110, 2) := by decide +kernel
theorem dd_M_letterOf_33 : decode c_M_letterOf 33 = .ok (.if_icmp .ne 7, 3) := by decide +kernel
theorem dd_M_letterOf_36 : decode c_M_letterOf 36 = .ok (.iconst 3, 1) := by decide +kernel
theorem dd_M_letterOf_37 : decode c_M_letterOf 37 = .ok (.goto 24, 3) := by decide +kernel
theorem dd_M_letterOf_40 : decode c_M_letterOf 40 = .ok (.iload_n 0, 1) := by decide +kernel
theorem dd_M_letterOf_41 : decode c_M_letterOf 41 = .ok (.bipush 119, 2) := by decide +kernel
theorem dd_M_letterOf_43 : decode c_M_letterOf 43 = .ok (.if_icmp .ne 7, 3) := by decide +kernel
theorem dd_M_letterOf_46 : decode c_M_letterOf 46 = .ok (.iconst 4, 1) := by decide +kernel
theorem dd_M_letterOf_47 : decode c_M_letterOf 47 = .ok (.goto 14, 3) := by decide +kernel
theorem dd_M_letterOf_50 : decode c_M_letterOf 50 = .ok (.iload_n 0, 1) := by decide +kernel
theorem dd_M_letterOf_51 : decode c_M_letterOf 51 = .ok (.bipush 114, 2) := by decide +kernel
theorem dd_M_letterOf_53 : decode c_M_letterOf 53 = .ok (.if_icmp .ne 7, 3) := by decide +kernel
theorem dd_M_letterOf_56 : decode c_M_letterOf 56 = .ok (.iconst 5, 1) := by decide +kernel
theorem dd_M_letterOf_57 : decode c_M_letterOf 57 = .ok (.goto 4, 3) := by decide +kernel
theorem dd_M_letterOf_60 : decode c_M_letterOf 60 = .ok (.iconst (-1), 1) := by decide +kernel
theorem dd_M_letterOf_61 : decode c_M_letterOf 61 = .ok (.ireturn, 1) := by decide +kernel
theorem dd_M_opens_0 : decode c_M_opens 0 = .ok (.aload_n 0, 1) := by decide +kernel
theorem dd_M_opens_1 : decode c_M_opens 1 = .ok (.getfield 113, 3) := by decide +kernel
theorem dd_M_opens_4 : decode c_M_opens 4 = .ok (.bipush 6, 2) := by decide +kernel
theorem dd_M_opens_6 : decode c_M_opens 6 = .ok (.if_icmp .ne 7, 3) := by decide +kernel
theorem dd_M_opens_9 : decode c_M_opens 9 = .ok (.aload_n 0, 1) := by decide +kernel
theorem dd_M_opens_10 : decode c_M_opens 10 = .ok (.invokevirtual 116, 3) := by decide +kernel
theorem dd_M_opens_13 : decode c_M_opens 13 = .ok (.aload_n 0, 1) := by decide +kernel
theorem dd_M_opens_14 : decode c_M_opens 14 = .ok (.dup, 1) := by decide +kernel
theorem dd_M_opens_15 : decode c_M_opens 15 = .ok (.getfield 113, 3) := by decide +kernel
theorem dd_M_opens_18 : decode c_M_opens 18 = .ok (.iconst 1, 1) := by decide +kernel
theorem dd_M_opens_19 : decode c_M_opens 19 = .ok (.iadd, 1) := by decide +kernel
theorem dd_M_opens_20 : decode c_M_opens 20 = .ok (.putfield 113, 3) := by decide +kernel
theorem dd_M_opens_23 : decode c_M_opens 23 = .ok (.aload_n 0, 1) := by decide +kernel
theorem dd_M_opens_24 : decode c_M_opens 24 = .ok (.dup, 1) := by decide +kernel
theorem dd_M_opens_25 : decode c_M_opens 25 = .ok (.getfield 100, 3) := by decide +kernel
theorem dd_M_opens_28 : decode c_M_opens 28 = .ok (.iconst 1, 1) := by decide +kernel
theorem dd_M_opens_29 : decode c_M_opens 29 = .ok (.iadd, 1) := by decide +kernel
theorem dd_M_opens_30 : decode c_M_opens 30 = .ok (.putfield 100, 3) := by decide +kernel
theorem dd_M_opens_33 : decode c_M_opens 33 = .ok (.return_, 1) := by decide +kernel
theorem dd_M_closes_0 : decode c_M_closes 0 = .ok (.aload_n 0, 1) := by decide +kernel
theorem dd_M_closes_1 : decode c_M_closes 1 = .ok (.getfield 107, 3) := by decide +kernel
theorem dd_M_closes_4 : decode c_M_closes 4 = .ok (.iconst (-1), 1) := by decide +kernel
theorem dd_M_closes_5 : decode c_M_closes 5 = .ok (.if_icmp .ne 15, 3) := by decide +kernel
theorem dd_M_closes_8 : decode c_M_closes 8 = .ok (.aload_n 0, 1) := by decide +kernel
theorem dd_M_closes_9 : decode c_M_closes 9 = .ok (.invokevirtual 119, 3) := by decide +kernel
theorem dd_M_closes_12 : decode c_M_closes 12 = .ok (.iload_n 1, 1) := by decide +kernel
theorem dd_M_closes_13 : decode c_M_closes 13 = .ok (.if_icmp .eq 7, 3) := by decide +kernel
theorem dd_M_closes_16 : decode c_M_closes 16 = .ok (.aload_n 0, 1) := by decide +kernel
theorem dd_M_closes_17 : decode c_M_closes 17 = .ok (.invokevirtual 116, 3) := by decide +kernel
theorem dd_M_closes_20 : decode c_M_closes 20 = .ok (.aload_n 0, 1) := by decide +kernel
theorem dd_M_closes_21 : decode c_M_closes 21 = .ok (.dup, 1) := by decide +kernel
theorem dd_M_closes_22 : decode c_M_closes 22 = .ok (.getfield 100, 3) := by decide +kernel
theorem dd_M_closes_25 : decode c_M_closes 25 = .ok (.iconst 1, 1) := by decide +kernel
theorem dd_M_closes_26 : decode c_M_closes 26 = .ok (.iadd, 1) := by decide +kernel
theorem dd_M_closes_27 : decode c_M_closes 27 = .ok (.putfield 100, 3) := by decide +kernel
theorem dd_M_closes_30 : decode c_M_closes 30 = .ok (.aload_n 0, 1) := by decide +kernel
theorem dd_M_closes_31 : decode c_M_closes 31 = .ok (.dup, 1) := by decide +kernel
theorem dd_M_closes_32 : decode c_M_closes 32 = .ok (.getfield 113, 3) := by decide +kernel
theorem dd_M_closes_35 : decode c_M_closes 35 = .ok (.iconst 1, 1) := by decide +kernel
theorem dd_M_closes_36 : decode c_M_closes 36 = .ok (.isub, 1) := by decide +kernel
theorem dd_M_closes_37 : decode c_M_closes 37 = .ok (.putfield 113, 3) := by decide +kernel
theorem dd_M_closes_40 : decode c_M_closes 40 = .ok (.return_, 1) := by decide +kernel
theorem dd_M_put_0 : decode c_M_put 0 = .ok (.aload_n 0, 1) := by decide +kernel
theorem dd_M_put_1 : decode c_M_put 1 = .ok (.getfield 13, 3) := by decide +kernel
theorem dd_M_put_4 : decode c_M_put 4 = .ok (.sipush 520, 3) := by decide +kernel
theorem dd_M_put_7 : decode c_M_put 7 = .ok (.aload_n 0, 1) := by decide +kernel
theorem dd_M_put_8 : decode c_M_put 8 = .ok (.getfield 110, 3) := by decide +kernel
theorem dd_M_put_11 : decode c_M_put 11 = .ok (.imul, 1) := by decide +kernel
theorem dd_M_put_12 : decode c_M_put 12 = .ok (.aload_n 0, 1) := by decide +kernel
theorem dd_M_put_13 : decode c_M_put 13 = .ok (.getfield 19, 3) := by decide +kernel
theorem dd_M_put_16 : decode c_M_put 16 = .ok (.aload_n 0, 1) := by decide +kernel
theorem dd_M_put_17 : decode c_M_put 17 = .ok (.getfield 110, 3) := by decide +kernel
theorem dd_M_put_20 : decode c_M_put 20 = .ok (.iaload, 1) := by decide +kernel
theorem dd_M_put_21 : decode c_M_put 21 = .ok (.iadd, 1) := by decide +kernel
theorem dd_M_put_22 : decode c_M_put 22 = .ok (.iload_n 1, 1) := by decide +kernel
theorem dd_M_put_23 : decode c_M_put 23 = .ok (.iastore, 1) := by decide +kernel
theorem dd_M_put_24 : decode c_M_put 24 = .ok (.aload_n 0, 1) := by decide +kernel
theorem dd_M_put_25 : decode c_M_put 25 = .ok (.getfield 16, 3) := by decide +kernel
theorem dd_M_put_28 : decode c_M_put 28 = .ok (.sipush 520, 3) := by decide +kernel
theorem dd_M_put_31 : decode c_M_put 31 = .ok (.aload_n 0, 1) := by decide +kernel
theorem dd_M_put_32 : decode c_M_put 32 = .ok (.getfield 110, 3) := by decide +kernel
theorem dd_M_put_35 : decode c_M_put 35 = .ok (.imul, 1) := by decide +kernel
theorem dd_M_put_36 : decode c_M_put 36 = .ok (.aload_n 0, 1) := by decide +kernel
theorem dd_M_put_37 : decode c_M_put 37 = .ok (.getfield 19, 3) := by decide +kernel
theorem dd_M_put_40 : decode c_M_put 40 = .ok (.aload_n 0, 1) := by decide +kernel
theorem dd_M_put_41 : decode c_M_put 41 = .ok (.getfield 110, 3) := by decide +kernel
theorem dd_M_put_44 : decode c_M_put 44 = .ok (.iaload, 1) := by decide +kernel
theorem dd_M_put_45 : decode c_M_put 45 = .ok (.iadd, 1) := by decide +kernel
theorem dd_M_put_46 : decode c_M_put 46 = .ok (.iload_n 2, 1) := by decide +kernel
theorem dd_M_put_47 : decode c_M_put 47 = .ok (.iastore, 1) := by decide +kernel
theorem dd_M_put_48 : decode c_M_put 48 = .ok (.aload_n 0, 1) := by decide +kernel
theorem dd_M_put_49 : decode c_M_put 49 = .ok (.getfield 19, 3) := by decide +kernel
theorem dd_M_put_52 : decode c_M_put 52 = .ok (.aload_n 0, 1) := by decide +kernel
theorem dd_M_put_53 : decode c_M_put 53 = .ok (.getfield 110, 3) := by decide +kernel
theorem dd_M_put_56 : decode c_M_put 56 = .ok (.dup2, 1) := by decide +kernel
theorem dd_M_put_57 : decode c_M_put 57 = .ok (.iaload, 1) := by decide +kernel
theorem dd_M_put_58 : decode c_M_put 58 = .ok (.iconst 1, 1) := by decide +kernel
theorem dd_M_put_59 : decode c_M_put 59 = .ok (.iadd, 1) := by decide +kernel
theorem dd_M_put_60 : decode c_M_put 60 = .ok (.iastore, 1) := by decide +kernel
theorem dd_M_put_61 : decode c_M_put 61 = .ok (.return_, 1) := by decide +kernel
