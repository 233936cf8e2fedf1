/-! ===== decode rows ===== -/
theorem dd_M_round_0 : decode c_M_round 0 = .ok (.aload_n 0, 1) := by decide +kernel
theorem dd_M_round_1 : decode c_M_round 1 = .ok (.getfield 242, 3) := by decide +kernel
theorem dd_M_round_4 : decode c_M_round 4 = .ok (.ifCond .eq 12, 3) := by decide +kernel
theorem dd_M_round_7 : decode c_M_round 7 = .ok (.iload_n 1, 1) := by decide +kernel
theorem dd_M_round_8 : decode c_M_round 8 = .ok (.iconst 0, 1) := by decide +kernel
theorem dd_M_round_9 : decode c_M_round 9 = .ok (.iconst 2, 1) := by decide +kernel
theorem dd_M_round_10 : decode c_M_round 10 = .ok (.invokestatic 205, 3) := by decide +kernel
theorem dd_M_round_13 : decode c_M_round 13 = .ok (.ifCond .ne 5, 3) := by decide +kernel
theorem dd_M_round_16 : decode c_M_round 16 = .ok (.iconst (-1), 1) := by decide +kernel
theorem dd_M_round_17 : decode c_M_round 17 = .ok (.ireturn, 1) := by decide +kernel
theorem dd_M_round_18 : decode c_M_round 18 = .ok (.aload_n 0, 1) := by decide +kernel
theorem dd_M_round_19 : decode c_M_round 19 = .ok (.iconst 0, 1) := by decide +kernel
theorem dd_M_round_20 : decode c_M_round 20 = .ok (.invokevirtual 358, 3) := by decide +kernel
theorem dd_M_round_23 : decode c_M_round 23 = .ok (.aload_n 0, 1) := by decide +kernel
theorem dd_M_round_24 : decode c_M_round 24 = .ok (.iconst 0, 1) := by decide +kernel
theorem dd_M_round_25 : decode c_M_round 25 = .ok (.putfield 396, 3) := by decide +kernel
theorem dd_M_round_28 : decode c_M_round 28 = .ok (.aload_n 0, 1) := by decide +kernel
theorem dd_M_round_29 : decode c_M_round 29 = .ok (.iconst 0, 1) := by decide +kernel
theorem dd_M_round_30 : decode c_M_round 30 = .ok (.putfield 393, 3) := by decide +kernel
theorem dd_M_round_33 : decode c_M_round 33 = .ok (.aload_n 0, 1) := by decide +kernel
theorem dd_M_round_34 : decode c_M_round 34 = .ok (.invokevirtual 399, 3) := by decide +kernel
theorem dd_M_round_37 : decode c_M_round 37 = .ok (.aload_n 0, 1) := by decide +kernel
theorem dd_M_round_38 : decode c_M_round 38 = .ok (.aload_n 0, 1) := by decide +kernel
theorem dd_M_round_39 : decode c_M_round 39 = .ok (.getfield 242, 3) := by decide +kernel
theorem dd_M_round_42 : decode c_M_round 42 = .ok (.iconst 1, 1) := by decide +kernel
theorem dd_M_round_43 : decode c_M_round 43 = .ok (.isub, 1) := by decide +kernel
theorem dd_M_round_44 : decode c_M_round 44 = .ok (.invokevirtual 402, 3) := by decide +kernel
theorem dd_M_round_47 : decode c_M_round 47 = .ok (.ifCond .eq 9, 3) := by decide +kernel
theorem dd_M_round_50 : decode c_M_round 50 = .ok (.aload_n 0, 1) := by decide +kernel
theorem dd_M_round_51 : decode c_M_round 51 = .ok (.iconst 0, 1) := by decide +kernel
theorem dd_M_round_52 : decode c_M_round 52 = .ok (.invokevirtual 402, 3) := by decide +kernel
theorem dd_M_round_55 : decode c_M_round 55 = .ok (.pop, 1) := by decide +kernel
theorem dd_M_round_56 : decode c_M_round 56 = .ok (.aload_n 0, 1) := by decide +kernel
theorem dd_M_round_57 : decode c_M_round 57 = .ok (.getfield 58, 3) := by decide +kernel
theorem dd_M_round_60 : decode c_M_round 60 = .ok (.bipush 44, 2) := by decide +kernel
theorem dd_M_round_62 : decode c_M_round 62 = .ok (.iaload, 1) := by decide +kernel
theorem dd_M_round_63 : decode c_M_round 63 = .ok (.istore_n 2, 1) := by decide +kernel
theorem dd_M_round_64 : decode c_M_round 64 = .ok (.aload_n 0, 1) := by decide +kernel
theorem dd_M_round_65 : decode c_M_round 65 = .ok (.iconst 0, 1) := by decide +kernel
theorem dd_M_round_66 : decode c_M_round 66 = .ok (.invokevirtual 364, 3) := by decide +kernel
theorem dd_M_round_69 : decode c_M_round 69 = .ok (.iload_n 1, 1) := by decide +kernel
theorem dd_M_round_70 : decode c_M_round 70 = .ok (.ifCond .ne 10, 3) := by decide +kernel
theorem dd_M_round_73 : decode c_M_round 73 = .ok (.aload_n 0, 1) := by decide +kernel
theorem dd_M_round_74 : decode c_M_round 74 = .ok (.getfield 396, 3) := by decide +kernel
theorem dd_M_round_77 : decode c_M_round 77 = .ok (.goto 16, 3) := by decide +kernel
theorem dd_M_round_80 : decode c_M_round 80 = .ok (.iload_n 1, 1) := by decide +kernel
theorem dd_M_round_81 : decode c_M_round 81 = .ok (.iconst 1, 1) := by decide +kernel
theorem dd_M_round_82 : decode c_M_round 82 = .ok (.if_icmp .ne 10, 3) := by decide +kernel
theorem dd_M_round_85 : decode c_M_round 85 = .ok (.aload_n 0, 1) := by decide +kernel
theorem dd_M_round_86 : decode c_M_round 86 = .ok (.getfield 393, 3) := by decide +kernel
theorem dd_M_round_89 : decode c_M_round 89 = .ok (.goto 4, 3) := by decide +kernel
theorem dd_M_round_92 : decode c_M_round 92 = .ok (.iload_n 2, 1) := by decide +kernel
theorem dd_M_round_93 : decode c_M_round 93 = .ok (.ireturn, 1) := by decide +kernel
theorem dd_W_highest_0 : decode c_W_highest 0 = .ok (.iconst 0, 1) := by decide +kernel
theorem dd_W_highest_1 : decode c_W_highest 1 = .ok (.istore_n 2, 1) := by decide +kernel
theorem dd_W_highest_2 : decode c_W_highest 2 = .ok (.iconst 1, 1) := by decide +kernel
theorem dd_W_highest_3 : decode c_W_highest 3 = .ok (.istore_n 3, 1) := by decide +kernel
theorem dd_W_highest_4 : decode c_W_highest 4 = .ok (.iload_n 3, 1) := by decide +kernel
theorem dd_W_highest_5 : decode c_W_highest 5 = .ok (.iload_n 1, 1) := by decide +kernel
theorem dd_W_highest_6 : decode c_W_highest 6 = .ok (.if_icmp .ge 26, 3) := by decide +kernel
theorem dd_W_highest_9 : decode c_W_highest 9 = .ok (.iload_n 3, 1) := by decide +kernel
theorem dd_W_highest_10 : decode c_W_highest 10 = .ok (.aload_n 0, 1) := by decide +kernel
theorem dd_W_highest_11 : decode c_W_highest 11 = .ok (.arraylength, 1) := by decide +kernel
theorem dd_W_highest_12 : decode c_W_highest 12 = .ok (.if_icmp .ge 20, 3) := by decide +kernel
theorem dd_W_highest_15 : decode c_W_highest 15 = .ok (.aload_n 0, 1) := by decide +kernel
theorem dd_W_highest_16 : decode c_W_highest 16 = .ok (.iload_n 3, 1) := by decide +kernel
theorem dd_W_highest_17 : decode c_W_highest 17 = .ok (.iaload, 1) := by decide +kernel
theorem dd_W_highest_18 : decode c_W_highest 18 = .ok (.aload_n 0, 1) := by decide +kernel
theorem dd_W_highest_19 : decode c_W_highest 19 = .ok (.iload_n 2, 1) := by decide +kernel
theorem dd_W_highest_20 : decode c_W_highest 20 = .ok (.iaload, 1) := by decide +kernel
theorem dd_W_highest_21 : decode c_W_highest 21 = .ok (.if_icmp .le 5, 3) := by decide +kernel
theorem dd_W_highest_24 : decode c_W_highest 24 = .ok (.iload_n 3, 1) := by decide +kernel
theorem dd_W_highest_25 : decode c_W_highest 25 = .ok (.istore_n 2, 1) := by decide +kernel
theorem dd_W_highest_26 : decode c_W_highest 26 = .ok (.iinc 3 1, 3) := by decide +kernel
theorem dd_W_highest_29 : decode c_W_highest 29 = .ok (.goto (-25), 3) := by decide +kernel
theorem dd_W_highest_32 : decode c_W_highest 32 = .ok (.iload_n 2, 1) := by decide +kernel
theorem dd_W_highest_33 : decode c_W_highest 33 = .ok (.ireturn, 1) := by decide +kernel
theorem dd_Plans_nightsIn_0 : decode c_Plans_nightsIn 0 = .ok (.iconst 0, 1) := by decide +kernel
theorem dd_Plans_nightsIn_1 : decode c_Plans_nightsIn 1 = .ok (.istore_n 2, 1) := by decide +kernel
theorem dd_Plans_nightsIn_2 : decode c_Plans_nightsIn 2 = .ok (.iconst 0, 1) := by decide +kernel
theorem dd_Plans_nightsIn_3 : decode c_Plans_nightsIn 3 = .ok (.istore_n 3, 1) := by decide +kernel
theorem dd_Plans_nightsIn_4 : decode c_Plans_nightsIn 4 = .ok (.iload_n 3, 1) := by decide +kernel
theorem dd_Plans_nightsIn_5 : decode c_Plans_nightsIn 5 = .ok (.aload_n 0, 1) := by decide +kernel
theorem dd_Plans_nightsIn_6 : decode c_Plans_nightsIn 6 = .ok (.getfield 24, 3) := by decide +kernel
theorem dd_Plans_nightsIn_9 : decode c_Plans_nightsIn 9 = .ok (.getfield 43, 3) := by decide +kernel
theorem dd_Plans_nightsIn_12 : decode c_Plans_nightsIn 12 = .ok (.if_icmp .ge 32, 3) := by decide +kernel
theorem dd_Plans_nightsIn_15 : decode c_Plans_nightsIn 15 = .ok (.aload_n 0, 1) := by decide +kernel
theorem dd_Plans_nightsIn_16 : decode c_Plans_nightsIn 16 = .ok (.getfield 28, 3) := by decide +kernel
theorem dd_Plans_nightsIn_19 : decode c_Plans_nightsIn 19 = .ok (.iload_n 3, 1) := by decide +kernel
theorem dd_Plans_nightsIn_20 : decode c_Plans_nightsIn 20 = .ok (.invokevirtual 48, 3) := by decide +kernel
theorem dd_Plans_nightsIn_23 : decode c_Plans_nightsIn 23 = .ok (.ifCond .eq 15, 3) := by decide +kernel
theorem dd_Plans_nightsIn_26 : decode c_Plans_nightsIn 26 = .ok (.iload_n 2, 1) := by decide +kernel
theorem dd_Plans_nightsIn_27 : decode c_Plans_nightsIn 27 = .ok (.aload_n 0, 1) := by decide +kernel
theorem dd_Plans_nightsIn_28 : decode c_Plans_nightsIn 28 = .ok (.getfield 32, 3) := by decide +kernel
theorem dd_Plans_nightsIn_31 : decode c_Plans_nightsIn 31 = .ok (.iload_n 1, 1) := by decide +kernel
theorem dd_Plans_nightsIn_32 : decode c_Plans_nightsIn 32 = .ok (.iload_n 3, 1) := by decide +kernel
theorem dd_Plans_nightsIn_33 : decode c_Plans_nightsIn 33 = .ok (.invokevirtual 66, 3) := by decide +kernel
theorem dd_Plans_nightsIn_36 : decode c_Plans_nightsIn 36 = .ok (.iadd, 1) := by decide +kernel
theorem dd_Plans_nightsIn_37 : decode c_Plans_nightsIn 37 = .ok (.istore_n 2, 1) := by decide +kernel
theorem dd_Plans_nightsIn_38 : decode c_Plans_nightsIn 38 = .ok (.iinc 3 1, 3) := by decide +kernel
theorem dd_Plans_nightsIn_41 : decode c_Plans_nightsIn 41 = .ok (.goto (-37), 3) := by decide +kernel
theorem dd_Plans_nightsIn_44 : decode c_Plans_nightsIn 44 = .ok (.iload_n 2, 1) := by decide +kernel
theorem dd_Plans_nightsIn_45 : decode c_Plans_nightsIn 45 = .ok (.ireturn, 1) := by decide +kernel
theorem dd_Plans_dullest_0 : decode c_Plans_dullest 0 = .ok (.iconst 0, 1) := by decide +kernel
theorem dd_Plans_dullest_1 : decode c_Plans_dullest 1 = .ok (.istore_n 1, 1) := by decide +kernel
theorem dd_Plans_dullest_2 : decode c_Plans_dullest 2 = .ok (.aload_n 0, 1) := by decide +kernel
theorem dd_Plans_dullest_3 : decode c_Plans_dullest 3 = .ok (.iconst 0, 1) := by decide +kernel
theorem dd_Plans_dullest_4 : decode c_Plans_dullest 4 = .ok (.invokevirtual 138, 3) := by decide +kernel
theorem dd_Plans_dullest_7 : decode c_Plans_dullest 7 = .ok (.istore_n 2, 1) := by decide +kernel
theorem dd_Plans_dullest_8 : decode c_Plans_dullest 8 = .ok (.iconst 1, 1) := by decide +kernel
theorem dd_Plans_dullest_9 : decode c_Plans_dullest 9 = .ok (.istore_n 3, 1) := by decide +kernel
theorem dd_Plans_dullest_10 : decode c_Plans_dullest 10 = .ok (.iload_n 3, 1) := by decide +kernel
theorem dd_Plans_dullest_11 : decode c_Plans_dullest 11 = .ok (.aload_n 0, 1) := by decide +kernel
theorem dd_Plans_dullest_12 : decode c_Plans_dullest 12 = .ok (.getfield 24, 3) := by decide +kernel
theorem dd_Plans_dullest_15 : decode c_Plans_dullest 15 = .ok (.getfield 63, 3) := by decide +kernel
theorem dd_Plans_dullest_18 : decode c_Plans_dullest 18 = .ok (.if_icmp .ge 27, 3) := by decide +kernel
theorem dd_Plans_dullest_21 : decode c_Plans_dullest 21 = .ok (.aload_n 0, 1) := by decide +kernel
theorem dd_Plans_dullest_22 : decode c_Plans_dullest 22 = .ok (.iload_n 3, 1) := by decide +kernel
theorem dd_Plans_dullest_23 : decode c_Plans_dullest 23 = .ok (.invokevirtual 138, 3) := by decide +kernel
theorem dd_Plans_dullest_26 : decode c_Plans_dullest 26 = .ok (.istore 4, 2) := by decide +kernel
theorem dd_Plans_dullest_28 : decode c_Plans_dullest 28 = .ok (.iload 4, 2) := by decide +kernel
theorem dd_Plans_dullest_30 : decode c_Plans_dullest 30 = .ok (.iload_n 2, 1) := by decide +kernel
theorem dd_Plans_dullest_31 : decode c_Plans_dullest 31 = .ok (.if_icmp .ge 8, 3) := by decide +kernel
theorem dd_Plans_dullest_34 : decode c_Plans_dullest 34 = .ok (.iload 4, 2) := by decide +kernel
theorem dd_Plans_dullest_36 : decode c_Plans_dullest 36 = .ok (.istore_n 2, 1) := by decide +kernel
theorem dd_Plans_dullest_37 : decode c_Plans_dullest 37 = .ok (.iload_n 3, 1) := by decide +kernel
theorem dd_Plans_dullest_38 : decode c_Plans_dullest 38 = .ok (.istore_n 1, 1) := by decide +kernel
theorem dd_Plans_dullest_39 : decode c_Plans_dullest 39 = .ok (.iinc 3 1, 3) := by decide +kernel
theorem dd_Plans_dullest_42 : decode c_Plans_dullest 42 = .ok (.goto (-32), 3) := by decide +kernel
theorem dd_Plans_dullest_45 : decode c_Plans_dullest 45 = .ok (.iload_n 1, 1) := by decide +kernel
theorem dd_Plans_dullest_46 : decode c_Plans_dullest 46 = .ok (.ireturn, 1) := by decide +kernel
theorem dd_Coast_trueBits_0 : decode c_Coast_trueBits 0 = .ok (.iconst 0, 1) := by decide +kernel
theorem dd_Coast_trueBits_1 : decode c_Coast_trueBits 1 = .ok (.istore_n 1, 1) := by decide +kernel
theorem dd_Coast_trueBits_2 : decode c_Coast_trueBits 2 = .ok (.iconst 0, 1) := by decide +kernel
theorem dd_Coast_trueBits_3 : decode c_Coast_trueBits 3 = .ok (.istore_n 2, 1) := by decide +kernel
theorem dd_Coast_trueBits_4 : decode c_Coast_trueBits 4 = .ok (.iload_n 2, 1) := by decide +kernel
theorem dd_Coast_trueBits_5 : decode c_Coast_trueBits 5 = .ok (.aload_n 0, 1) := by decide +kernel
theorem dd_Coast_trueBits_6 : decode c_Coast_trueBits 6 = .ok (.getfield 34, 3) := by decide +kernel
theorem dd_Coast_trueBits_9 : decode c_Coast_trueBits 9 = .ok (.if_icmp .ge 20, 3) := by decide +kernel
theorem dd_Coast_trueBits_12 : decode c_Coast_trueBits 12 = .ok (.iload_n 1, 1) := by decide +kernel
theorem dd_Coast_trueBits_13 : decode c_Coast_trueBits 13 = .ok (.aload_n 0, 1) := by decide +kernel
theorem dd_Coast_trueBits_14 : decode c_Coast_trueBits 14 = .ok (.getfield 27, 3) := by decide +kernel
theorem dd_Coast_trueBits_17 : decode c_Coast_trueBits 17 = .ok (.iload_n 2, 1) := by decide +kernel
theorem dd_Coast_trueBits_18 : decode c_Coast_trueBits 18 = .ok (.iaload, 1) := by decide +kernel
theorem dd_Coast_trueBits_19 : decode c_Coast_trueBits 19 = .ok (.iload_n 2, 1) := by decide +kernel
theorem dd_Coast_trueBits_20 : decode c_Coast_trueBits 20 = .ok (.ishl, 1) := by decide +kernel
theorem dd_Coast_trueBits_21 : decode c_Coast_trueBits 21 = .ok (.ior, 1) := by decide +kernel
theorem dd_Coast_trueBits_22 : decode c_Coast_trueBits 22 = .ok (.istore_n 1, 1) := by decide +kernel
theorem dd_Coast_trueBits_23 : decode c_Coast_trueBits 23 = .ok (.iinc 2 1, 3) := by decide +kernel
theorem dd_Coast_trueBits_26 : decode c_Coast_trueBits 26 = .ok (.goto (-22), 3) := by decide +kernel
theorem dd_Coast_trueBits_29 : decode c_Coast_trueBits 29 = .ok (.iload_n 1, 1) := by decide +kernel
theorem dd_Coast_trueBits_30 : decode c_Coast_trueBits 30 = .ok (.ireturn, 1) := by decide +kernel
theorem dd_W_commonBits_0 : decode c_W_commonBits 0 = .ok (.aload_n 0, 1) := by decide +kernel
theorem dd_W_commonBits_1 : decode c_W_commonBits 1 = .ok (.getfield 42, 3) := by decide +kernel
theorem dd_W_commonBits_4 : decode c_W_commonBits 4 = .ok (.invokevirtual 362, 3) := by decide +kernel
theorem dd_W_commonBits_7 : decode c_W_commonBits 7 = .ok (.istore_n 1, 1) := by decide +kernel
theorem dd_W_commonBits_8 : decode c_W_commonBits 8 = .ok (.iconst 0, 1) := by decide +kernel
theorem dd_W_commonBits_9 : decode c_W_commonBits 9 = .ok (.istore_n 2, 1) := by decide +kernel
theorem dd_W_commonBits_10 : decode c_W_commonBits 10 = .ok (.iload_n 2, 1) := by decide +kernel
theorem dd_W_commonBits_11 : decode c_W_commonBits 11 = .ok (.aload_n 0, 1) := by decide +kernel
theorem dd_W_commonBits_12 : decode c_W_commonBits 12 = .ok (.getfield 42, 3) := by decide +kernel
theorem dd_W_commonBits_15 : decode c_W_commonBits 15 = .ok (.getfield 121, 3) := by decide +kernel
theorem dd_W_commonBits_18 : decode c_W_commonBits 18 = .ok (.if_icmp .ge 20, 3) := by decide +kernel
theorem dd_W_commonBits_21 : decode c_W_commonBits 21 = .ok (.iload_n 1, 1) := by decide +kernel
theorem dd_W_commonBits_22 : decode c_W_commonBits 22 = .ok (.aload_n 0, 1) := by decide +kernel
theorem dd_W_commonBits_23 : decode c_W_commonBits 23 = .ok (.getfield 49, 3) := by decide +kernel
theorem dd_W_commonBits_26 : decode c_W_commonBits 26 = .ok (.iload_n 2, 1) := by decide +kernel
theorem dd_W_commonBits_27 : decode c_W_commonBits 27 = .ok (.invokevirtual 154, 3) := by decide +kernel
theorem dd_W_commonBits_30 : decode c_W_commonBits 30 = .ok (.iand, 1) := by decide +kernel
theorem dd_W_commonBits_31 : decode c_W_commonBits 31 = .ok (.istore_n 1, 1) := by decide +kernel
theorem dd_W_commonBits_32 : decode c_W_commonBits 32 = .ok (.iinc 2 1, 3) := by decide +kernel
theorem dd_W_commonBits_35 : decode c_W_commonBits 35 = .ok (.goto (-25), 3) := by decide +kernel
theorem dd_W_commonBits_38 : decode c_W_commonBits 38 = .ok (.iload_n 1, 1) := by decide +kernel
theorem dd_W_commonBits_39 : decode c_W_commonBits 39 = .ok (.ireturn, 1) := by decide +kernel
theorem dd_Plans_allNights_0 : decode c_Plans_allNights 0 = .ok (.iconst 0, 1) := by decide +kernel
theorem dd_Plans_allNights_1 : decode c_Plans_allNights 1 = .ok (.istore_n 1, 1) := by decide +kernel
theorem dd_Plans_allNights_2 : decode c_Plans_allNights 2 = .ok (.iconst 0, 1) := by decide +kernel
theorem dd_Plans_allNights_3 : decode c_Plans_allNights 3 = .ok (.istore_n 2, 1) := by decide +kernel
theorem dd_Plans_allNights_4 : decode c_Plans_allNights 4 = .ok (.iload_n 2, 1) := by decide +kernel
theorem dd_Plans_allNights_5 : decode c_Plans_allNights 5 = .ok (.aload_n 0, 1) := by decide +kernel
theorem dd_Plans_allNights_6 : decode c_Plans_allNights 6 = .ok (.getfield 24, 3) := by decide +kernel
theorem dd_Plans_allNights_9 : decode c_Plans_allNights 9 = .ok (.getfield 63, 3) := by decide +kernel
theorem dd_Plans_allNights_12 : decode c_Plans_allNights 12 = .ok (.if_icmp .ge 17, 3) := by decide +kernel
theorem dd_Plans_allNights_15 : decode c_Plans_allNights 15 = .ok (.iload_n 1, 1) := by decide +kernel
theorem dd_Plans_allNights_16 : decode c_Plans_allNights 16 = .ok (.aload_n 0, 1) := by decide +kernel
theorem dd_Plans_allNights_17 : decode c_Plans_allNights 17 = .ok (.iload_n 2, 1) := by decide +kernel
theorem dd_Plans_allNights_18 : decode c_Plans_allNights 18 = .ok (.invokevirtual 138, 3) := by decide +kernel
theorem dd_Plans_allNights_21 : decode c_Plans_allNights 21 = .ok (.iadd, 1) := by decide +kernel
theorem dd_Plans_allNights_22 : decode c_Plans_allNights 22 = .ok (.istore_n 1, 1) := by decide +kernel
theorem dd_Plans_allNights_23 : decode c_Plans_allNights 23 = .ok (.iinc 2 1, 3) := by decide +kernel
theorem dd_Plans_allNights_26 : decode c_Plans_allNights 26 = .ok (.goto (-22), 3) := by decide +kernel
theorem dd_Plans_allNights_29 : decode c_Plans_allNights 29 = .ok (.iload_n 1, 1) := by decide +kernel
theorem dd_Plans_allNights_30 : decode c_Plans_allNights 30 = .ok (.ireturn, 1) := by decide +kernel
theorem dd_Plans_holdingHouses_0 : decode c_Plans_holdingHouses 0 = .ok (.iconst 0, 1) := by decide +kernel
theorem dd_Plans_holdingHouses_1 : decode c_Plans_holdingHouses 1 = .ok (.istore_n 1, 1) := by decide +kernel
theorem dd_Plans_holdingHouses_2 : decode c_Plans_holdingHouses 2 = .ok (.iconst 0, 1) := by decide +kernel
theorem dd_Plans_holdingHouses_3 : decode c_Plans_holdingHouses 3 = .ok (.istore_n 2, 1) := by decide +kernel
theorem dd_Plans_holdingHouses_4 : decode c_Plans_holdingHouses 4 = .ok (.iload_n 2, 1) := by decide +kernel
theorem dd_Plans_holdingHouses_5 : decode c_Plans_holdingHouses 5 = .ok (.aload_n 0, 1) := by decide +kernel
theorem dd_Plans_holdingHouses_6 : decode c_Plans_holdingHouses 6 = .ok (.getfield 24, 3) := by decide +kernel
theorem dd_Plans_holdingHouses_9 : decode c_Plans_holdingHouses 9 = .ok (.getfield 63, 3) := by decide +kernel
theorem dd_Plans_holdingHouses_12 : decode c_Plans_holdingHouses 12 = .ok (.if_icmp .ge 20, 3) := by decide +kernel
theorem dd_Plans_holdingHouses_15 : decode c_Plans_holdingHouses 15 = .ok (.aload_n 0, 1) := by decide +kernel
theorem dd_Plans_holdingHouses_16 : decode c_Plans_holdingHouses 16 = .ok (.iload_n 2, 1) := by decide +kernel
theorem dd_Plans_holdingHouses_17 : decode c_Plans_holdingHouses 17 = .ok (.invokevirtual 138, 3) := by decide +kernel
theorem dd_Plans_holdingHouses_20 : decode c_Plans_holdingHouses 20 = .ok (.ifCond .le 6, 3) := by decide +kernel
theorem dd_Plans_holdingHouses_23 : decode c_Plans_holdingHouses 23 = .ok (.iinc 1 1, 3) := by decide +kernel
theorem dd_Plans_holdingHouses_26 : decode c_Plans_holdingHouses 26 = .ok (.iinc 2 1, 3) := by decide +kernel
theorem dd_Plans_holdingHouses_29 : decode c_Plans_holdingHouses 29 = .ok (.goto (-25), 3) := by decide +kernel
theorem dd_Plans_holdingHouses_32 : decode c_Plans_holdingHouses 32 = .ok (.iload_n 1, 1) := by decide +kernel
theorem dd_Plans_holdingHouses_33 : decode c_Plans_holdingHouses 33 = .ok (.ireturn, 1) := by decide +kernel
theorem dd_W_most_0 : decode c_W_most 0 = .ok (.aload_n 0, 1) := by decide +kernel
theorem dd_W_most_1 : decode c_W_most 1 = .ok (.getfield 42, 3) := by decide +kernel
theorem dd_W_most_4 : decode c_W_most 4 = .ok (.invokevirtual 235, 3) := by decide +kernel
theorem dd_W_most_7 : decode c_W_most 7 = .ok (.ifCond .ne 5, 3) := by decide +kernel
theorem dd_W_most_10 : decode c_W_most 10 = .ok (.iconst (-1), 1) := by decide +kernel
theorem dd_W_most_11 : decode c_W_most 11 = .ok (.ireturn, 1) := by decide +kernel
theorem dd_W_most_12 : decode c_W_most 12 = .ok (.iload_n 1, 1) := by decide +kernel
theorem dd_W_most_13 : decode c_W_most 13 = .ok (.tableswitch 160 0 8 #[51, 69, 87, 105, 123, 131, 139, 144, 152], 51) := by decide +kernel
theorem dd_W_most_64 : decode c_W_most 64 = .ok (.aload_n 0, 1) := by decide +kernel
theorem dd_W_most_65 : decode c_W_most 65 = .ok (.getfield 42, 3) := by decide +kernel
theorem dd_W_most_68 : decode c_W_most 68 = .ok (.getfield 169, 3) := by decide +kernel
theorem dd_W_most_71 : decode c_W_most 71 = .ok (.aload_n 0, 1) := by decide +kernel
theorem dd_W_most_72 : decode c_W_most 72 = .ok (.getfield 42, 3) := by decide +kernel
theorem dd_W_most_75 : decode c_W_most 75 = .ok (.getfield 250, 3) := by decide +kernel
theorem dd_W_most_78 : decode c_W_most 78 = .ok (.invokestatic 343, 3) := by decide +kernel
theorem dd_W_most_81 : decode c_W_most 81 = .ok (.ireturn, 1) := by decide +kernel
theorem dd_W_most_82 : decode c_W_most 82 = .ok (.aload_n 0, 1) := by decide +kernel
theorem dd_W_most_83 : decode c_W_most 83 = .ok (.getfield 49, 3) := by decide +kernel
theorem dd_W_most_86 : decode c_W_most 86 = .ok (.getfield 172, 3) := by decide +kernel
theorem dd_W_most_89 : decode c_W_most 89 = .ok (.aload_n 0, 1) := by decide +kernel
theorem dd_W_most_90 : decode c_W_most 90 = .ok (.getfield 42, 3) := by decide +kernel
theorem dd_W_most_93 : decode c_W_most 93 = .ok (.getfield 250, 3) := by decide +kernel
theorem dd_W_most_96 : decode c_W_most 96 = .ok (.invokestatic 343, 3) := by decide +kernel
theorem dd_W_most_99 : decode c_W_most 99 = .ok (.ireturn, 1) := by decide +kernel
theorem dd_W_most_100 : decode c_W_most 100 = .ok (.aload_n 0, 1) := by decide +kernel
theorem dd_W_most_101 : decode c_W_most 101 = .ok (.getfield 42, 3) := by decide +kernel
theorem dd_W_most_104 : decode c_W_most 104 = .ok (.getfield 157, 3) := by decide +kernel
theorem dd_W_most_107 : decode c_W_most 107 = .ok (.aload_n 0, 1) := by decide +kernel
theorem dd_W_most_108 : decode c_W_most 108 = .ok (.getfield 42, 3) := by decide +kernel
theorem dd_W_most_111 : decode c_W_most 111 = .ok (.getfield 121, 3) := by decide +kernel
theorem dd_W_most_114 : decode c_W_most 114 = .ok (.invokestatic 343, 3) := by decide +kernel
theorem dd_W_most_117 : decode c_W_most 117 = .ok (.ireturn, 1) := by decide +kernel
theorem dd_W_most_118 : decode c_W_most 118 = .ok (.aload_n 0, 1) := by decide +kernel
theorem dd_W_most_119 : decode c_W_most 119 = .ok (.getfield 42, 3) := by decide +kernel
theorem dd_W_most_122 : decode c_W_most 122 = .ok (.getfield 160, 3) := by decide +kernel
theorem dd_W_most_125 : decode c_W_most 125 = .ok (.aload_n 0, 1) := by decide +kernel
theorem dd_W_most_126 : decode c_W_most 126 = .ok (.getfield 42, 3) := by decide +kernel
theorem dd_W_most_129 : decode c_W_most 129 = .ok (.getfield 121, 3) := by decide +kernel
theorem dd_W_most_132 : decode c_W_most 132 = .ok (.invokestatic 343, 3) := by decide +kernel
theorem dd_W_most_135 : decode c_W_most 135 = .ok (.ireturn, 1) := by decide +kernel
theorem dd_W_most_136 : decode c_W_most 136 = .ok (.aload_n 0, 1) := by decide +kernel
theorem dd_W_most_137 : decode c_W_most 137 = .ok (.getfield 83, 3) := by decide +kernel
theorem dd_W_most_140 : decode c_W_most 140 = .ok (.invokevirtual 347, 3) := by decide +kernel
theorem dd_W_most_143 : decode c_W_most 143 = .ok (.ireturn, 1) := by decide +kernel
theorem dd_W_most_144 : decode c_W_most 144 = .ok (.aload_n 0, 1) := by decide +kernel
theorem dd_W_most_145 : decode c_W_most 145 = .ok (.getfield 42, 3) := by decide +kernel
theorem dd_W_most_148 : decode c_W_most 148 = .ok (.invokevirtual 350, 3) := by decide +kernel
theorem dd_W_most_151 : decode c_W_most 151 = .ok (.ireturn, 1) := by decide +kernel
theorem dd_W_most_152 : decode c_W_most 152 = .ok (.aload_n 0, 1) := by decide +kernel
theorem dd_W_most_153 : decode c_W_most 153 = .ok (.invokevirtual 353, 3) := by decide +kernel
theorem dd_W_most_156 : decode c_W_most 156 = .ok (.ireturn, 1) := by decide +kernel
theorem dd_W_most_157 : decode c_W_most 157 = .ok (.aload_n 0, 1) := by decide +kernel
theorem dd_W_most_158 : decode c_W_most 158 = .ok (.getfield 83, 3) := by decide +kernel
theorem dd_W_most_161 : decode c_W_most 161 = .ok (.invokevirtual 356, 3) := by decide +kernel
theorem dd_W_most_164 : decode c_W_most 164 = .ok (.ireturn, 1) := by decide +kernel
theorem dd_W_most_165 : decode c_W_most 165 = .ok (.aload_n 0, 1) := by decide +kernel
theorem dd_W_most_166 : decode c_W_most 166 = .ok (.getfield 83, 3) := by decide +kernel
theorem dd_W_most_169 : decode c_W_most 169 = .ok (.invokevirtual 359, 3) := by decide +kernel
theorem dd_W_most_172 : decode c_W_most 172 = .ok (.ireturn, 1) := by decide +kernel
theorem dd_W_most_173 : decode c_W_most 173 = .ok (.iconst (-1), 1) := by decide +kernel
theorem dd_W_most_174 : decode c_W_most 174 = .ok (.ireturn, 1) := by decide +kernel
theorem dd_M_topTale_0 : decode c_M_topTale 0 = .ok (.iconst 0, 1) := by decide +kernel
theorem dd_M_topTale_1 : decode c_M_topTale 1 = .ok (.istore_n 2, 1) := by decide +kernel
theorem dd_M_topTale_2 : decode c_M_topTale 2 = .ok (.iconst 1, 1) := by decide +kernel
theorem dd_M_topTale_3 : decode c_M_topTale 3 = .ok (.istore_n 3, 1) := by decide +kernel
theorem dd_M_topTale_4 : decode c_M_topTale 4 = .ok (.iload_n 3, 1) := by decide +kernel
theorem dd_M_topTale_5 : decode c_M_topTale 5 = .ok (.aload_n 0, 1) := by decide +kernel
theorem dd_M_topTale_6 : decode c_M_topTale 6 = .ok (.getfield 245, 3) := by decide +kernel
theorem dd_M_topTale_9 : decode c_M_topTale 9 = .ok (.if_icmp .ge 61, 3) := by decide +kernel
theorem dd_M_topTale_12 : decode c_M_topTale 12 = .ok (.iload_n 1, 1) := by decide +kernel
theorem dd_M_topTale_13 : decode c_M_topTale 13 = .ok (.ifCond .eq 19, 3) := by decide +kernel
theorem dd_M_topTale_16 : decode c_M_topTale 16 = .ok (.aload_n 0, 1) := by decide +kernel
theorem dd_M_topTale_17 : decode c_M_topTale 17 = .ok (.iload_n 3, 1) := by decide +kernel
theorem dd_M_topTale_18 : decode c_M_topTale 18 = .ok (.iconst 0, 1) := by decide +kernel
theorem dd_M_topTale_19 : decode c_M_topTale 19 = .ok (.invokevirtual 248, 3) := by decide +kernel
theorem dd_M_topTale_22 : decode c_M_topTale 22 = .ok (.aload_n 0, 1) := by decide +kernel
theorem dd_M_topTale_23 : decode c_M_topTale 23 = .ok (.iload_n 2, 1) := by decide +kernel
theorem dd_M_topTale_24 : decode c_M_topTale 24 = .ok (.iconst 0, 1) := by decide +kernel
theorem dd_M_topTale_25 : decode c_M_topTale 25 = .ok (.invokevirtual 248, 3) := by decide +kernel
theorem dd_M_topTale_28 : decode c_M_topTale 28 = .ok (.isub, 1) := by decide +kernel
theorem dd_M_topTale_29 : decode c_M_topTale 29 = .ok (.goto 22, 3) := by decide +kernel
theorem dd_M_topTale_32 : decode c_M_topTale 32 = .ok (.aload_n 0, 1) := by decide +kernel
theorem dd_M_topTale_33 : decode c_M_topTale 33 = .ok (.getfield 58, 3) := by decide +kernel
theorem dd_M_topTale_36 : decode c_M_topTale 36 = .ok (.bipush 36, 2) := by decide +kernel
theorem dd_M_topTale_38 : decode c_M_topTale 38 = .ok (.iload_n 3, 1) := by decide +kernel
theorem dd_M_topTale_39 : decode c_M_topTale 39 = .ok (.iadd, 1) := by decide +kernel
theorem dd_M_topTale_40 : decode c_M_topTale 40 = .ok (.iaload, 1) := by decide +kernel
theorem dd_M_topTale_41 : decode c_M_topTale 41 = .ok (.aload_n 0, 1) := by decide +kernel
theorem dd_M_topTale_42 : decode c_M_topTale 42 = .ok (.getfield 58, 3) := by decide +kernel
theorem dd_M_topTale_45 : decode c_M_topTale 45 = .ok (.bipush 36, 2) := by decide +kernel
theorem dd_M_topTale_47 : decode c_M_topTale 47 = .ok (.iload_n 2, 1) := by decide +kernel
theorem dd_M_topTale_48 : decode c_M_topTale 48 = .ok (.iadd, 1) := by decide +kernel
theorem dd_M_topTale_49 : decode c_M_topTale 49 = .ok (.iaload, 1) := by decide +kernel
theorem dd_M_topTale_50 : decode c_M_topTale 50 = .ok (.isub, 1) := by decide +kernel
theorem dd_M_topTale_51 : decode c_M_topTale 51 = .ok (.istore 4, 2) := by decide +kernel
theorem dd_M_topTale_53 : decode c_M_topTale 53 = .ok (.iload 4, 2) := by decide +kernel
theorem dd_M_topTale_55 : decode c_M_topTale 55 = .ok (.ifCond .le 7, 3) := by decide +kernel
theorem dd_M_topTale_58 : decode c_M_topTale 58 = .ok (.iload_n 3, 1) := by decide +kernel
theorem dd_M_topTale_59 : decode c_M_topTale 59 = .ok (.goto 4, 3) := by decide +kernel
theorem dd_M_topTale_62 : decode c_M_topTale 62 = .ok (.iload_n 2, 1) := by decide +kernel
theorem dd_M_topTale_63 : decode c_M_topTale 63 = .ok (.istore_n 2, 1) := by decide +kernel
theorem dd_M_topTale_64 : decode c_M_topTale 64 = .ok (.iinc 3 1, 3) := by decide +kernel
theorem dd_M_topTale_67 : decode c_M_topTale 67 = .ok (.goto (-63), 3) := by decide +kernel
theorem dd_M_topTale_70 : decode c_M_topTale 70 = .ok (.iload_n 2, 1) := by decide +kernel
theorem dd_M_topTale_71 : decode c_M_topTale 71 = .ok (.ireturn, 1) := by decide +kernel
theorem dd_M_nightsOfAll_0 : decode c_M_nightsOfAll 0 = .ok (.iconst 0, 1) := by decide +kernel
theorem dd_M_nightsOfAll_1 : decode c_M_nightsOfAll 1 = .ok (.istore_n 2, 1) := by decide +kernel
theorem dd_M_nightsOfAll_2 : decode c_M_nightsOfAll 2 = .ok (.iconst 0, 1) := by decide +kernel
theorem dd_M_nightsOfAll_3 : decode c_M_nightsOfAll 3 = .ok (.istore_n 3, 1) := by decide +kernel
theorem dd_M_nightsOfAll_4 : decode c_M_nightsOfAll 4 = .ok (.iload_n 3, 1) := by decide +kernel
theorem dd_M_nightsOfAll_5 : decode c_M_nightsOfAll 5 = .ok (.aload_n 0, 1) := by decide +kernel
theorem dd_M_nightsOfAll_6 : decode c_M_nightsOfAll 6 = .ok (.getfield 245, 3) := by decide +kernel
theorem dd_M_nightsOfAll_9 : decode c_M_nightsOfAll 9 = .ok (.if_icmp .ge 30, 3) := by decide +kernel
theorem dd_M_nightsOfAll_12 : decode c_M_nightsOfAll 12 = .ok (.iload_n 2, 1) := by decide +kernel
theorem dd_M_nightsOfAll_13 : decode c_M_nightsOfAll 13 = .ok (.aload_n 0, 1) := by decide +kernel
theorem dd_M_nightsOfAll_14 : decode c_M_nightsOfAll 14 = .ok (.iload_n 3, 1) := by decide +kernel
theorem dd_M_nightsOfAll_15 : decode c_M_nightsOfAll 15 = .ok (.invokevirtual 309, 3) := by decide +kernel
theorem dd_M_nightsOfAll_18 : decode c_M_nightsOfAll 18 = .ok (.ifCond .eq 12, 3) := by decide +kernel
theorem dd_M_nightsOfAll_21 : decode c_M_nightsOfAll 21 = .ok (.aload_n 0, 1) := by decide +kernel
theorem dd_M_nightsOfAll_22 : decode c_M_nightsOfAll 22 = .ok (.iload_n 1, 1) := by decide +kernel
theorem dd_M_nightsOfAll_23 : decode c_M_nightsOfAll 23 = .ok (.iload_n 3, 1) := by decide +kernel
theorem dd_M_nightsOfAll_24 : decode c_M_nightsOfAll 24 = .ok (.invokevirtual 284, 3) := by decide +kernel
theorem dd_M_nightsOfAll_27 : decode c_M_nightsOfAll 27 = .ok (.goto 4, 3) := by decide +kernel
theorem dd_M_nightsOfAll_30 : decode c_M_nightsOfAll 30 = .ok (.iconst 0, 1) := by decide +kernel
theorem dd_M_nightsOfAll_31 : decode c_M_nightsOfAll 31 = .ok (.iadd, 1) := by decide +kernel
theorem dd_M_nightsOfAll_32 : decode c_M_nightsOfAll 32 = .ok (.istore_n 2, 1) := by decide +kernel
theorem dd_M_nightsOfAll_33 : decode c_M_nightsOfAll 33 = .ok (.iinc 3 1, 3) := by decide +kernel
theorem dd_M_nightsOfAll_36 : decode c_M_nightsOfAll 36 = .ok (.goto (-32), 3) := by decide +kernel
theorem dd_M_nightsOfAll_39 : decode c_M_nightsOfAll 39 = .ok (.iload_n 2, 1) := by decide +kernel
theorem dd_M_nightsOfAll_40 : decode c_M_nightsOfAll 40 = .ok (.ireturn, 1) := by decide +kernel
theorem dd_M_topHouse_0 : decode c_M_topHouse 0 = .ok (.iconst 0, 1) := by decide +kernel
theorem dd_M_topHouse_1 : decode c_M_topHouse 1 = .ok (.istore_n 2, 1) := by decide +kernel
theorem dd_M_topHouse_2 : decode c_M_topHouse 2 = .ok (.iconst 1, 1) := by decide +kernel
theorem dd_M_topHouse_3 : decode c_M_topHouse 3 = .ok (.istore_n 3, 1) := by decide +kernel
theorem dd_M_topHouse_4 : decode c_M_topHouse 4 = .ok (.iload_n 3, 1) := by decide +kernel
theorem dd_M_topHouse_5 : decode c_M_topHouse 5 = .ok (.aload_n 0, 1) := by decide +kernel
theorem dd_M_topHouse_6 : decode c_M_topHouse 6 = .ok (.getfield 242, 3) := by decide +kernel
theorem dd_M_topHouse_9 : decode c_M_topHouse 9 = .ok (.if_icmp .ge 58, 3) := by decide +kernel
theorem dd_M_topHouse_12 : decode c_M_topHouse 12 = .ok (.iload_n 1, 1) := by decide +kernel
theorem dd_M_topHouse_13 : decode c_M_topHouse 13 = .ok (.iconst 4, 1) := by decide +kernel
theorem dd_M_topHouse_14 : decode c_M_topHouse 14 = .ok (.if_icmp .ne 17, 3) := by decide +kernel
theorem dd_M_topHouse_17 : decode c_M_topHouse 17 = .ok (.aload_n 0, 1) := by decide +kernel
theorem dd_M_topHouse_18 : decode c_M_topHouse 18 = .ok (.iload_n 2, 1) := by decide +kernel
theorem dd_M_topHouse_19 : decode c_M_topHouse 19 = .ok (.invokevirtual 405, 3) := by decide +kernel
theorem dd_M_topHouse_22 : decode c_M_topHouse 22 = .ok (.aload_n 0, 1) := by decide +kernel
theorem dd_M_topHouse_23 : decode c_M_topHouse 23 = .ok (.iload_n 3, 1) := by decide +kernel
theorem dd_M_topHouse_24 : decode c_M_topHouse 24 = .ok (.invokevirtual 405, 3) := by decide +kernel
theorem dd_M_topHouse_27 : decode c_M_topHouse 27 = .ok (.isub, 1) := by decide +kernel
theorem dd_M_topHouse_28 : decode c_M_topHouse 28 = .ok (.goto 20, 3) := by decide +kernel
theorem dd_M_topHouse_31 : decode c_M_topHouse 31 = .ok (.aload_n 0, 1) := by decide +kernel
theorem dd_M_topHouse_32 : decode c_M_topHouse 32 = .ok (.iload_n 3, 1) := by decide +kernel
theorem dd_M_topHouse_33 : decode c_M_topHouse 33 = .ok (.iload_n 1, 1) := by decide +kernel
theorem dd_M_topHouse_34 : decode c_M_topHouse 34 = .ok (.iconst 1, 1) := by decide +kernel
theorem dd_M_topHouse_35 : decode c_M_topHouse 35 = .ok (.isub, 1) := by decide +kernel
theorem dd_M_topHouse_36 : decode c_M_topHouse 36 = .ok (.invokevirtual 251, 3) := by decide +kernel
theorem dd_M_topHouse_39 : decode c_M_topHouse 39 = .ok (.aload_n 0, 1) := by decide +kernel
theorem dd_M_topHouse_40 : decode c_M_topHouse 40 = .ok (.iload_n 2, 1) := by decide +kernel
theorem dd_M_topHouse_41 : decode c_M_topHouse 41 = .ok (.iload_n 1, 1) := by decide +kernel
theorem dd_M_topHouse_42 : decode c_M_topHouse 42 = .ok (.iconst 1, 1) := by decide +kernel
theorem dd_M_topHouse_43 : decode c_M_topHouse 43 = .ok (.isub, 1) := by decide +kernel
theorem dd_M_topHouse_44 : decode c_M_topHouse 44 = .ok (.invokevirtual 251, 3) := by decide +kernel
theorem dd_M_topHouse_47 : decode c_M_topHouse 47 = .ok (.isub, 1) := by decide +kernel
theorem dd_M_topHouse_48 : decode c_M_topHouse 48 = .ok (.istore 4, 2) := by decide +kernel
theorem dd_M_topHouse_50 : decode c_M_topHouse 50 = .ok (.iload 4, 2) := by decide +kernel
theorem dd_M_topHouse_52 : decode c_M_topHouse 52 = .ok (.ifCond .le 7, 3) := by decide +kernel
theorem dd_M_topHouse_55 : decode c_M_topHouse 55 = .ok (.iload_n 3, 1) := by decide +kernel
theorem dd_M_topHouse_56 : decode c_M_topHouse 56 = .ok (.goto 4, 3) := by decide +kernel
theorem dd_M_topHouse_59 : decode c_M_topHouse 59 = .ok (.iload_n 2, 1) := by decide +kernel
theorem dd_M_topHouse_60 : decode c_M_topHouse 60 = .ok (.istore_n 2, 1) := by decide +kernel
theorem dd_M_topHouse_61 : decode c_M_topHouse 61 = .ok (.iinc 3 1, 3) := by decide +kernel
theorem dd_M_topHouse_64 : decode c_M_topHouse 64 = .ok (.goto (-60), 3) := by decide +kernel
theorem dd_M_topHouse_67 : decode c_M_topHouse 67 = .ok (.iload_n 2, 1) := by decide +kernel
theorem dd_M_topHouse_68 : decode c_M_topHouse 68 = .ok (.ireturn, 1) := by decide +kernel
theorem dd_M_trueOnes_0 : decode c_M_trueOnes 0 = .ok (.iconst 0, 1) := by decide +kernel
theorem dd_M_trueOnes_1 : decode c_M_trueOnes 1 = .ok (.istore_n 1, 1) := by decide +kernel
theorem dd_M_trueOnes_2 : decode c_M_trueOnes 2 = .ok (.iconst 0, 1) := by decide +kernel
theorem dd_M_trueOnes_3 : decode c_M_trueOnes 3 = .ok (.istore_n 2, 1) := by decide +kernel
theorem dd_M_trueOnes_4 : decode c_M_trueOnes 4 = .ok (.iload_n 2, 1) := by decide +kernel
theorem dd_M_trueOnes_5 : decode c_M_trueOnes 5 = .ok (.aload_n 0, 1) := by decide +kernel
theorem dd_M_trueOnes_6 : decode c_M_trueOnes 6 = .ok (.getfield 245, 3) := by decide +kernel
theorem dd_M_trueOnes_9 : decode c_M_trueOnes 9 = .ok (.if_icmp .ge 20, 3) := by decide +kernel
theorem dd_M_trueOnes_12 : decode c_M_trueOnes 12 = .ok (.iload_n 1, 1) := by decide +kernel
theorem dd_M_trueOnes_13 : decode c_M_trueOnes 13 = .ok (.aload_n 0, 1) := by decide +kernel
theorem dd_M_trueOnes_14 : decode c_M_trueOnes 14 = .ok (.iload_n 2, 1) := by decide +kernel
theorem dd_M_trueOnes_15 : decode c_M_trueOnes 15 = .ok (.iconst 2, 1) := by decide +kernel
theorem dd_M_trueOnes_16 : decode c_M_trueOnes 16 = .ok (.invokevirtual 248, 3) := by decide +kernel
theorem dd_M_trueOnes_19 : decode c_M_trueOnes 19 = .ok (.iload_n 2, 1) := by decide +kernel
theorem dd_M_trueOnes_20 : decode c_M_trueOnes 20 = .ok (.ishl, 1) := by decide +kernel
theorem dd_M_trueOnes_21 : decode c_M_trueOnes 21 = .ok (.ior, 1) := by decide +kernel
theorem dd_M_trueOnes_22 : decode c_M_trueOnes 22 = .ok (.istore_n 1, 1) := by decide +kernel
theorem dd_M_trueOnes_23 : decode c_M_trueOnes 23 = .ok (.iinc 2 1, 3) := by decide +kernel
theorem dd_M_trueOnes_26 : decode c_M_trueOnes 26 = .ok (.goto (-22), 3) := by decide +kernel
theorem dd_M_trueOnes_29 : decode c_M_trueOnes 29 = .ok (.iload_n 1, 1) := by decide +kernel
theorem dd_M_trueOnes_30 : decode c_M_trueOnes 30 = .ok (.ireturn, 1) := by decide +kernel
theorem dd_M_commonOnes_0 : decode c_M_commonOnes 0 = .ok (.iconst 1, 1) := by decide +kernel
theorem dd_M_commonOnes_1 : decode c_M_commonOnes 1 = .ok (.aload_n 0, 1) := by decide +kernel
theorem dd_M_commonOnes_2 : decode c_M_commonOnes 2 = .ok (.getfield 245, 3) := by decide +kernel
theorem dd_M_commonOnes_5 : decode c_M_commonOnes 5 = .ok (.ishl, 1) := by decide +kernel
theorem dd_M_commonOnes_6 : decode c_M_commonOnes 6 = .ok (.iconst 1, 1) := by decide +kernel
theorem dd_M_commonOnes_7 : decode c_M_commonOnes 7 = .ok (.isub, 1) := by decide +kernel
theorem dd_M_commonOnes_8 : decode c_M_commonOnes 8 = .ok (.istore_n 1, 1) := by decide +kernel
theorem dd_M_commonOnes_9 : decode c_M_commonOnes 9 = .ok (.iconst 0, 1) := by decide +kernel
theorem dd_M_commonOnes_10 : decode c_M_commonOnes 10 = .ok (.istore_n 2, 1) := by decide +kernel
theorem dd_M_commonOnes_11 : decode c_M_commonOnes 11 = .ok (.iload_n 2, 1) := by decide +kernel
theorem dd_M_commonOnes_12 : decode c_M_commonOnes 12 = .ok (.aload_n 0, 1) := by decide +kernel
theorem dd_M_commonOnes_13 : decode c_M_commonOnes 13 = .ok (.getfield 242, 3) := by decide +kernel
theorem dd_M_commonOnes_16 : decode c_M_commonOnes 16 = .ok (.if_icmp .ge 17, 3) := by decide +kernel
theorem dd_M_commonOnes_19 : decode c_M_commonOnes 19 = .ok (.iload_n 1, 1) := by decide +kernel
theorem dd_M_commonOnes_20 : decode c_M_commonOnes 20 = .ok (.aload_n 0, 1) := by decide +kernel
theorem dd_M_commonOnes_21 : decode c_M_commonOnes 21 = .ok (.iload_n 2, 1) := by decide +kernel
theorem dd_M_commonOnes_22 : decode c_M_commonOnes 22 = .ok (.invokevirtual 303, 3) := by decide +kernel
theorem dd_M_commonOnes_25 : decode c_M_commonOnes 25 = .ok (.iand, 1) := by decide +kernel
theorem dd_M_commonOnes_26 : decode c_M_commonOnes 26 = .ok (.istore_n 1, 1) := by decide +kernel
theorem dd_M_commonOnes_27 : decode c_M_commonOnes 27 = .ok (.iinc 2 1, 3) := by decide +kernel
theorem dd_M_commonOnes_30 : decode c_M_commonOnes 30 = .ok (.goto (-19), 3) := by decide +kernel
theorem dd_M_commonOnes_33 : decode c_M_commonOnes 33 = .ok (.iload_n 1, 1) := by decide +kernel
theorem dd_M_commonOnes_34 : decode c_M_commonOnes 34 = .ok (.ireturn, 1) := by decide +kernel
theorem dd_M_overAll_0 : decode c_M_overAll 0 = .ok (.iconst 0, 1) := by decide +kernel
theorem dd_M_overAll_1 : decode c_M_overAll 1 = .ok (.istore_n 2, 1) := by decide +kernel
theorem dd_M_overAll_2 : decode c_M_overAll 2 = .ok (.iconst 0, 1) := by decide +kernel
theorem dd_M_overAll_3 : decode c_M_overAll 3 = .ok (.istore_n 3, 1) := by decide +kernel
theorem dd_M_overAll_4 : decode c_M_overAll 4 = .ok (.iload_n 3, 1) := by decide +kernel
theorem dd_M_overAll_5 : decode c_M_overAll 5 = .ok (.aload_n 0, 1) := by decide +kernel
theorem dd_M_overAll_6 : decode c_M_overAll 6 = .ok (.getfield 242, 3) := by decide +kernel
theorem dd_M_overAll_9 : decode c_M_overAll 9 = .ok (.if_icmp .ge 38, 3) := by decide +kernel
theorem dd_M_overAll_12 : decode c_M_overAll 12 = .ok (.aload_n 0, 1) := by decide +kernel
theorem dd_M_overAll_13 : decode c_M_overAll 13 = .ok (.iload_n 3, 1) := by decide +kernel
theorem dd_M_overAll_14 : decode c_M_overAll 14 = .ok (.invokevirtual 405, 3) := by decide +kernel
theorem dd_M_overAll_17 : decode c_M_overAll 17 = .ok (.istore 4, 2) := by decide +kernel
theorem dd_M_overAll_19 : decode c_M_overAll 19 = .ok (.iload_n 2, 1) := by decide +kernel
theorem dd_M_overAll_20 : decode c_M_overAll 20 = .ok (.iload_n 1, 1) := by decide +kernel
theorem dd_M_overAll_21 : decode c_M_overAll 21 = .ok (.ifCond .ne 8, 3) := by decide +kernel
theorem dd_M_overAll_24 : decode c_M_overAll 24 = .ok (.iload 4, 2) := by decide +kernel
theorem dd_M_overAll_26 : decode c_M_overAll 26 = .ok (.goto 13, 3) := by decide +kernel
theorem dd_M_overAll_29 : decode c_M_overAll 29 = .ok (.iload 4, 2) := by decide +kernel
theorem dd_M_overAll_31 : decode c_M_overAll 31 = .ok (.ifCond .le 7, 3) := by decide +kernel
theorem dd_M_overAll_34 : decode c_M_overAll 34 = .ok (.iconst 1, 1) := by decide +kernel
theorem dd_M_overAll_35 : decode c_M_overAll 35 = .ok (.goto 4, 3) := by decide +kernel
theorem dd_M_overAll_38 : decode c_M_overAll 38 = .ok (.iconst 0, 1) := by decide +kernel
theorem dd_M_overAll_39 : decode c_M_overAll 39 = .ok (.iadd, 1) := by decide +kernel
theorem dd_M_overAll_40 : decode c_M_overAll 40 = .ok (.istore_n 2, 1) := by decide +kernel
theorem dd_M_overAll_41 : decode c_M_overAll 41 = .ok (.iinc 3 1, 3) := by decide +kernel
theorem dd_M_overAll_44 : decode c_M_overAll 44 = .ok (.goto (-40), 3) := by decide +kernel
theorem dd_M_overAll_47 : decode c_M_overAll 47 = .ok (.iload_n 2, 1) := by decide +kernel
theorem dd_M_overAll_48 : decode c_M_overAll 48 = .ok (.ireturn, 1) := by decide +kernel
theorem dd_M_most_0 : decode c_M_most 0 = .ok (.aload_n 0, 1) := by decide +kernel
theorem dd_M_most_1 : decode c_M_most 1 = .ok (.getfield 242, 3) := by decide +kernel
theorem dd_M_most_4 : decode c_M_most 4 = .ok (.ifCond .ne 5, 3) := by decide +kernel
theorem dd_M_most_7 : decode c_M_most 7 = .ok (.iconst (-1), 1) := by decide +kernel
theorem dd_M_most_8 : decode c_M_most 8 = .ok (.ireturn, 1) := by decide +kernel
theorem dd_M_most_9 : decode c_M_most 9 = .ok (.iload_n 1, 1) := by decide +kernel
theorem dd_M_most_10 : decode c_M_most 10 = .ok (.tableswitch 102 0 8 #[50, 56, 62, 68, 74, 80, 85, 90, 96], 50) := by decide +kernel
theorem dd_M_most_60 : decode c_M_most 60 = .ok (.aload_n 0, 1) := by decide +kernel
theorem dd_M_most_61 : decode c_M_most 61 = .ok (.iconst 1, 1) := by decide +kernel
theorem dd_M_most_62 : decode c_M_most 62 = .ok (.invokevirtual 408, 3) := by decide +kernel
theorem dd_M_most_65 : decode c_M_most 65 = .ok (.ireturn, 1) := by decide +kernel
theorem dd_M_most_66 : decode c_M_most 66 = .ok (.aload_n 0, 1) := by decide +kernel
theorem dd_M_most_67 : decode c_M_most 67 = .ok (.iconst 0, 1) := by decide +kernel
theorem dd_M_most_68 : decode c_M_most 68 = .ok (.invokevirtual 408, 3) := by decide +kernel
theorem dd_M_most_71 : decode c_M_most 71 = .ok (.ireturn, 1) := by decide +kernel
theorem dd_M_most_72 : decode c_M_most 72 = .ok (.aload_n 0, 1) := by decide +kernel
theorem dd_M_most_73 : decode c_M_most 73 = .ok (.iconst 2, 1) := by decide +kernel
theorem dd_M_most_74 : decode c_M_most 74 = .ok (.invokevirtual 412, 3) := by decide +kernel
theorem dd_M_most_77 : decode c_M_most 77 = .ok (.ireturn, 1) := by decide +kernel
theorem dd_M_most_78 : decode c_M_most 78 = .ok (.aload_n 0, 1) := by decide +kernel
theorem dd_M_most_79 : decode c_M_most 79 = .ok (.iconst 3, 1) := by decide +kernel
theorem dd_M_most_80 : decode c_M_most 80 = .ok (.invokevirtual 412, 3) := by decide +kernel
theorem dd_M_most_83 : decode c_M_most 83 = .ok (.ireturn, 1) := by decide +kernel
theorem dd_M_most_84 : decode c_M_most 84 = .ok (.aload_n 0, 1) := by decide +kernel
theorem dd_M_most_85 : decode c_M_most 85 = .ok (.iconst 4, 1) := by decide +kernel
theorem dd_M_most_86 : decode c_M_most 86 = .ok (.invokevirtual 412, 3) := by decide +kernel
theorem dd_M_most_89 : decode c_M_most 89 = .ok (.ireturn, 1) := by decide +kernel
theorem dd_M_most_90 : decode c_M_most 90 = .ok (.aload_n 0, 1) := by decide +kernel
theorem dd_M_most_91 : decode c_M_most 91 = .ok (.invokevirtual 415, 3) := by decide +kernel
theorem dd_M_most_94 : decode c_M_most 94 = .ok (.ireturn, 1) := by decide +kernel
theorem dd_M_most_95 : decode c_M_most 95 = .ok (.aload_n 0, 1) := by decide +kernel
theorem dd_M_most_96 : decode c_M_most 96 = .ok (.invokevirtual 418, 3) := by decide +kernel
theorem dd_M_most_99 : decode c_M_most 99 = .ok (.ireturn, 1) := by decide +kernel
theorem dd_M_most_100 : decode c_M_most 100 = .ok (.aload_n 0, 1) := by decide +kernel
theorem dd_M_most_101 : decode c_M_most 101 = .ok (.iconst 0, 1) := by decide +kernel
theorem dd_M_most_102 : decode c_M_most 102 = .ok (.invokevirtual 421, 3) := by decide +kernel
theorem dd_M_most_105 : decode c_M_most 105 = .ok (.ireturn, 1) := by decide +kernel
theorem dd_M_most_106 : decode c_M_most 106 = .ok (.aload_n 0, 1) := by decide +kernel
theorem dd_M_most_107 : decode c_M_most 107 = .ok (.iconst 1, 1) := by decide +kernel
theorem dd_M_most_108 : decode c_M_most 108 = .ok (.invokevirtual 421, 3) := by decide +kernel
theorem dd_M_most_111 : decode c_M_most 111 = .ok (.ireturn, 1) := by decide +kernel
theorem dd_M_most_112 : decode c_M_most 112 = .ok (.iconst (-1), 1) := by decide +kernel
theorem dd_M_most_113 : decode c_M_most 113 = .ok (.ireturn, 1) := by decide +kernel
theorem dd_Past_keepImage_0 : decode c_Past_keepImage 0 = .ok (.aload_n 1, 1) := by decide +kernel
theorem dd_Past_keepImage_1 : decode c_Past_keepImage 1 = .ok (.aload_n 0, 1) := by decide +kernel
theorem dd_Past_keepImage_2 : decode c_Past_keepImage 2 = .ok (.getfield 15, 3) := by decide +kernel
theorem dd_Past_keepImage_5 : decode c_Past_keepImage 5 = .ok (.iconst 0, 1) := by decide +kernel
theorem dd_Past_keepImage_6 : decode c_Past_keepImage 6 = .ok (.invokevirtual 32, 3) := by decide +kernel
theorem dd_Past_keepImage_9 : decode c_Past_keepImage 9 = .ok (.aload_n 1, 1) := by decide +kernel
theorem dd_Past_keepImage_10 : decode c_Past_keepImage 10 = .ok (.getfield 45, 3) := by decide +kernel
theorem dd_Past_keepImage_13 : decode c_Past_keepImage 13 = .ok (.iconst 0, 1) := by decide +kernel
theorem dd_Past_keepImage_14 : decode c_Past_keepImage 14 = .ok (.aload_n 0, 1) := by decide +kernel
theorem dd_Past_keepImage_15 : decode c_Past_keepImage 15 = .ok (.getfield 18, 3) := by decide +kernel
theorem dd_Past_keepImage_18 : decode c_Past_keepImage 18 = .ok (.iconst 0, 1) := by decide +kernel
theorem dd_Past_keepImage_19 : decode c_Past_keepImage 19 = .ok (.bipush 100, 2) := by decide +kernel
theorem dd_Past_keepImage_21 : decode c_Past_keepImage 21 = .ok (.invokestatic 48, 3) := by decide +kernel
theorem dd_Past_keepImage_24 : decode c_Past_keepImage 24 = .ok (.aload_n 0, 1) := by decide +kernel
theorem dd_Past_keepImage_25 : decode c_Past_keepImage 25 = .ok (.iconst 1, 1) := by decide +kernel
theorem dd_Past_keepImage_26 : decode c_Past_keepImage 26 = .ok (.putfield 25, 3) := by decide +kernel
theorem dd_Past_keepImage_29 : decode c_Past_keepImage 29 = .ok (.return_, 1) := by decide +kernel
theorem dd_W_image_0 : decode c_W_image 0 = .ok (.aload_n 0, 1) := by decide +kernel
theorem dd_W_image_1 : decode c_W_image 1 = .ok (.getfield 42, 3) := by decide +kernel
theorem dd_W_image_4 : decode c_W_image 4 = .ok (.invokevirtual 235, 3) := by decide +kernel
theorem dd_W_image_7 : decode c_W_image 7 = .ok (.ifCond .ne 5, 3) := by decide +kernel
theorem dd_W_image_10 : decode c_W_image 10 = .ok (.iconst (-1), 1) := by decide +kernel
theorem dd_W_image_11 : decode c_W_image 11 = .ok (.ireturn, 1) := by decide +kernel
theorem dd_W_image_12 : decode c_W_image 12 = .ok (.aload_n 0, 1) := by decide +kernel
theorem dd_W_image_13 : decode c_W_image 13 = .ok (.getfield 56, 3) := by decide +kernel
theorem dd_W_image_16 : decode c_W_image 16 = .ok (.aload_n 0, 1) := by decide +kernel
theorem dd_W_image_17 : decode c_W_image 17 = .ok (.getfield 49, 3) := by decide +kernel
theorem dd_W_image_20 : decode c_W_image 20 = .ok (.invokevirtual 365, 3) := by decide +kernel
theorem dd_W_image_23 : decode c_W_image 23 = .ok (.aload_n 0, 1) := by decide +kernel
theorem dd_W_image_24 : decode c_W_image 24 = .ok (.getfield 49, 3) := by decide +kernel
theorem dd_W_image_27 : decode c_W_image 27 = .ok (.getfield 224, 3) := by decide +kernel
theorem dd_W_image_30 : decode c_W_image 30 = .ok (.ireturn, 1) := by decide +kernel
theorem dd_M_image_0 : decode c_M_image 0 = .ok (.aload_n 0, 1) := by decide +kernel
theorem dd_M_image_1 : decode c_M_image 1 = .ok (.getfield 242, 3) := by decide +kernel
theorem dd_M_image_4 : decode c_M_image 4 = .ok (.ifCond .ne 5, 3) := by decide +kernel
theorem dd_M_image_7 : decode c_M_image 7 = .ok (.iconst (-1), 1) := by decide +kernel
theorem dd_M_image_8 : decode c_M_image 8 = .ok (.ireturn, 1) := by decide +kernel
theorem dd_M_image_9 : decode c_M_image 9 = .ok (.iconst 0, 1) := by decide +kernel
theorem dd_M_image_10 : decode c_M_image 10 = .ok (.istore_n 1, 1) := by decide +kernel
theorem dd_M_image_11 : decode c_M_image 11 = .ok (.iload_n 1, 1) := by decide +kernel
theorem dd_M_image_12 : decode c_M_image 12 = .ok (.sipush 229, 3) := by decide +kernel
theorem dd_M_image_15 : decode c_M_image 15 = .ok (.if_icmp .ge 21, 3) := by decide +kernel
theorem dd_M_image_18 : decode c_M_image 18 = .ok (.aload_n 0, 1) := by decide +kernel
theorem dd_M_image_19 : decode c_M_image 19 = .ok (.getfield 87, 3) := by decide +kernel
theorem dd_M_image_22 : decode c_M_image 22 = .ok (.iload_n 1, 1) := by decide +kernel
theorem dd_M_image_23 : decode c_M_image 23 = .ok (.aload_n 0, 1) := by decide +kernel
theorem dd_M_image_24 : decode c_M_image 24 = .ok (.getfield 58, 3) := by decide +kernel
theorem dd_M_image_27 : decode c_M_image 27 = .ok (.iload_n 1, 1) := by decide +kernel
theorem dd_M_image_28 : decode c_M_image 28 = .ok (.iaload, 1) := by decide +kernel
theorem dd_M_image_29 : decode c_M_image 29 = .ok (.iastore, 1) := by decide +kernel
theorem dd_M_image_30 : decode c_M_image 30 = .ok (.iinc 1 1, 3) := by decide +kernel
theorem dd_M_image_33 : decode c_M_image 33 = .ok (.goto (-22), 3) := by decide +kernel
theorem dd_M_image_36 : decode c_M_image 36 = .ok (.aload_n 0, 1) := by decide +kernel
theorem dd_M_image_37 : decode c_M_image 37 = .ok (.iconst 1, 1) := by decide +kernel
theorem dd_M_image_38 : decode c_M_image 38 = .ok (.putfield 260, 3) := by decide +kernel
theorem dd_M_image_41 : decode c_M_image 41 = .ok (.aload_n 0, 1) := by decide +kernel
theorem dd_M_image_42 : decode c_M_image 42 = .ok (.getfield 58, 3) := by decide +kernel
theorem dd_M_image_45 : decode c_M_image 45 = .ok (.bipush 45, 2) := by decide +kernel
theorem dd_M_image_47 : decode c_M_image 47 = .ok (.iaload, 1) := by decide +kernel
theorem dd_M_image_48 : decode c_M_image 48 = .ok (.ireturn, 1) := by decide +kernel
theorem dd_Past_takeImage_0 : decode c_Past_takeImage 0 = .ok (.aload_n 1, 1) := by decide +kernel
theorem dd_Past_takeImage_1 : decode c_Past_takeImage 1 = .ok (.aload_n 0, 1) := by decide +kernel
theorem dd_Past_takeImage_2 : decode c_Past_takeImage 2 = .ok (.getfield 15, 3) := by decide +kernel
theorem dd_Past_takeImage_5 : decode c_Past_takeImage 5 = .ok (.iconst 0, 1) := by decide +kernel
theorem dd_Past_takeImage_6 : decode c_Past_takeImage 6 = .ok (.invokevirtual 42, 3) := by decide +kernel
theorem dd_Past_takeImage_9 : decode c_Past_takeImage 9 = .ok (.aload_n 0, 1) := by decide +kernel
theorem dd_Past_takeImage_10 : decode c_Past_takeImage 10 = .ok (.getfield 18, 3) := by decide +kernel
theorem dd_Past_takeImage_13 : decode c_Past_takeImage 13 = .ok (.iconst 0, 1) := by decide +kernel
theorem dd_Past_takeImage_14 : decode c_Past_takeImage 14 = .ok (.aload_n 1, 1) := by decide +kernel
theorem dd_Past_takeImage_15 : decode c_Past_takeImage 15 = .ok (.getfield 45, 3) := by decide +kernel
theorem dd_Past_takeImage_18 : decode c_Past_takeImage 18 = .ok (.iconst 0, 1) := by decide +kernel
theorem dd_Past_takeImage_19 : decode c_Past_takeImage 19 = .ok (.bipush 100, 2) := by decide +kernel
theorem dd_Past_takeImage_21 : decode c_Past_takeImage 21 = .ok (.invokestatic 48, 3) := by decide +kernel
theorem dd_Past_takeImage_24 : decode c_Past_takeImage 24 = .ok (.aload_n 0, 1) := by decide +kernel
theorem dd_Past_takeImage_25 : decode c_Past_takeImage 25 = .ok (.iconst 0, 1) := by decide +kernel
theorem dd_Past_takeImage_26 : decode c_Past_takeImage 26 = .ok (.putfield 21, 3) := by decide +kernel
theorem dd_Past_takeImage_29 : decode c_Past_takeImage 29 = .ok (.return_, 1) := by decide +kernel
theorem dd_W_back_0 : decode c_W_back 0 = .ok (.aload_n 0, 1) := by decide +kernel
theorem dd_W_back_1 : decode c_W_back 1 = .ok (.getfield 56, 3) := by decide +kernel
theorem dd_W_back_4 : decode c_W_back 4 = .ok (.getfield 368, 3) := by decide +kernel
theorem dd_W_back_7 : decode c_W_back 7 = .ok (.ifCond .ne 5, 3) := by decide +kernel
theorem dd_W_back_10 : decode c_W_back 10 = .ok (.iconst (-1), 1) := by decide +kernel
theorem dd_W_back_11 : decode c_W_back 11 = .ok (.ireturn, 1) := by decide +kernel
theorem dd_W_back_12 : decode c_W_back 12 = .ok (.aload_n 0, 1) := by decide +kernel
theorem dd_W_back_13 : decode c_W_back 13 = .ok (.getfield 56, 3) := by decide +kernel
theorem dd_W_back_16 : decode c_W_back 16 = .ok (.aload_n 0, 1) := by decide +kernel
theorem dd_W_back_17 : decode c_W_back 17 = .ok (.getfield 49, 3) := by decide +kernel
theorem dd_W_back_20 : decode c_W_back 20 = .ok (.invokevirtual 372, 3) := by decide +kernel
theorem dd_W_back_23 : decode c_W_back 23 = .ok (.aload_n 0, 1) := by decide +kernel
theorem dd_W_back_24 : decode c_W_back 24 = .ok (.getfield 49, 3) := by decide +kernel
theorem dd_W_back_27 : decode c_W_back 27 = .ok (.getfield 224, 3) := by decide +kernel
theorem dd_W_back_30 : decode c_W_back 30 = .ok (.ireturn, 1) := by decide +kernel
theorem dd_M_back_0 : decode c_M_back 0 = .ok (.aload_n 0, 1) := by decide +kernel
theorem dd_M_back_1 : decode c_M_back 1 = .ok (.getfield 260, 3) := by decide +kernel
theorem dd_M_back_4 : decode c_M_back 4 = .ok (.ifCond .ne 5, 3) := by decide +kernel
theorem dd_M_back_7 : decode c_M_back 7 = .ok (.iconst (-1), 1) := by decide +kernel
theorem dd_M_back_8 : decode c_M_back 8 = .ok (.ireturn, 1) := by decide +kernel
theorem dd_M_back_9 : decode c_M_back 9 = .ok (.iconst 0, 1) := by decide +kernel
theorem dd_M_back_10 : decode c_M_back 10 = .ok (.istore_n 1, 1) := by decide +kernel
theorem dd_M_back_11 : decode c_M_back 11 = .ok (.iload_n 1, 1) := by decide +kernel
theorem dd_M_back_12 : decode c_M_back 12 = .ok (.sipush 229, 3) := by decide +kernel
theorem dd_M_back_15 : decode c_M_back 15 = .ok (.if_icmp .ge 21, 3) := by decide +kernel
theorem dd_M_back_18 : decode c_M_back 18 = .ok (.aload_n 0, 1) := by decide +kernel
theorem dd_M_back_19 : decode c_M_back 19 = .ok (.getfield 58, 3) := by decide +kernel
theorem dd_M_back_22 : decode c_M_back 22 = .ok (.iload_n 1, 1) := by decide +kernel
theorem dd_M_back_23 : decode c_M_back 23 = .ok (.aload_n 0, 1) := by decide +kernel
theorem dd_M_back_24 : decode c_M_back 24 = .ok (.getfield 87, 3) := by decide +kernel
theorem dd_M_back_27 : decode c_M_back 27 = .ok (.iload_n 1, 1) := by decide +kernel
theorem dd_M_back_28 : decode c_M_back 28 = .ok (.iaload, 1) := by decide +kernel
theorem dd_M_back_29 : decode c_M_back 29 = .ok (.iastore, 1) := by decide +kernel
theorem dd_M_back_30 : decode c_M_back 30 = .ok (.iinc 1 1, 3) := by decide +kernel
theorem dd_M_back_33 : decode c_M_back 33 = .ok (.goto (-22), 3) := by decide +kernel
theorem dd_M_back_36 : decode c_M_back 36 = .ok (.aload_n 0, 1) := by decide +kernel
theorem dd_M_back_37 : decode c_M_back 37 = .ok (.iconst 0, 1) := by decide +kernel
theorem dd_M_back_38 : decode c_M_back 38 = .ok (.putfield 257, 3) := by decide +kernel
theorem dd_M_back_41 : decode c_M_back 41 = .ok (.aload_n 0, 1) := by decide +kernel
theorem dd_M_back_42 : decode c_M_back 42 = .ok (.getfield 58, 3) := by decide +kernel
theorem dd_M_back_45 : decode c_M_back 45 = .ok (.bipush 45, 2) := by decide +kernel
theorem dd_M_back_47 : decode c_M_back 47 = .ok (.iaload, 1) := by decide +kernel
theorem dd_M_back_48 : decode c_M_back 48 = .ok (.ireturn, 1) := by decide +kernel
theorem dd_W_countOfStand_0 : decode c_W_countOfStand 0 = .ok (.iload_n 1, 1) := by decide +kernel
theorem dd_W_countOfStand_1 : decode c_W_countOfStand 1 = .ok (.tableswitch 87 5 10 #[39, 47, 55, 63, 71, 79], 39) := by decide +kernel
theorem dd_W_countOfStand_40 : decode c_W_countOfStand 40 = .ok (.aload_n 0, 1) := by decide +kernel
theorem dd_W_countOfStand_41 : decode c_W_countOfStand 41 = .ok (.getfield 49, 3) := by decide +kernel
theorem dd_W_countOfStand_44 : decode c_W_countOfStand 44 = .ok (.getfield 224, 3) := by decide +kernel
theorem dd_W_countOfStand_47 : decode c_W_countOfStand 47 = .ok (.ireturn, 1) := by decide +kernel
theorem dd_W_countOfStand_48 : decode c_W_countOfStand 48 = .ok (.aload_n 0, 1) := by decide +kernel
theorem dd_W_countOfStand_49 : decode c_W_countOfStand 49 = .ok (.getfield 49, 3) := by decide +kernel
theorem dd_W_countOfStand_52 : decode c_W_countOfStand 52 = .ok (.getfield 198, 3) := by decide +kernel
theorem dd_W_countOfStand_55 : decode c_W_countOfStand 55 = .ok (.ireturn, 1) := by decide +kernel
theorem dd_W_countOfStand_56 : decode c_W_countOfStand 56 = .ok (.aload_n 0, 1) := by decide +kernel
theorem dd_W_countOfStand_57 : decode c_W_countOfStand 57 = .ok (.getfield 49, 3) := by decide +kernel
theorem dd_W_countOfStand_60 : decode c_W_countOfStand 60 = .ok (.getfield 227, 3) := by decide +kernel
theorem dd_W_countOfStand_63 : decode c_W_countOfStand 63 = .ok (.ireturn, 1) := by decide +kernel
theorem dd_W_countOfStand_64 : decode c_W_countOfStand 64 = .ok (.aload_n 0, 1) := by decide +kernel
theorem dd_W_countOfStand_65 : decode c_W_countOfStand 65 = .ok (.getfield 49, 3) := by decide +kernel
theorem dd_W_countOfStand_68 : decode c_W_countOfStand 68 = .ok (.getfield 218, 3) := by decide +kernel
theorem dd_W_countOfStand_71 : decode c_W_countOfStand 71 = .ok (.ireturn, 1) := by decide +kernel
theorem dd_W_countOfStand_72 : decode c_W_countOfStand 72 = .ok (.aload_n 0, 1) := by decide +kernel
theorem dd_W_countOfStand_73 : decode c_W_countOfStand 73 = .ok (.getfield 49, 3) := by decide +kernel
theorem dd_W_countOfStand_76 : decode c_W_countOfStand 76 = .ok (.getfield 378, 3) := by decide +kernel
theorem dd_W_countOfStand_79 : decode c_W_countOfStand 79 = .ok (.ireturn, 1) := by decide +kernel
theorem dd_W_countOfStand_80 : decode c_W_countOfStand 80 = .ok (.aload_n 0, 1) := by decide +kernel
theorem dd_W_countOfStand_81 : decode c_W_countOfStand 81 = .ok (.getfield 49, 3) := by decide +kernel
theorem dd_W_countOfStand_84 : decode c_W_countOfStand 84 = .ok (.getfield 381, 3) := by decide +kernel
theorem dd_W_countOfStand_87 : decode c_W_countOfStand 87 = .ok (.ireturn, 1) := by decide +kernel
theorem dd_W_countOfStand_88 : decode c_W_countOfStand 88 = .ok (.ldc_w 314, 3) := by decide +kernel
theorem dd_W_countOfStand_91 : decode c_W_countOfStand 91 = .ok (.ireturn, 1) := by decide +kernel
theorem dd_W_count_0 : decode c_W_count 0 = .ok (.iload_n 1, 1) := by decide +kernel
theorem dd_W_count_1 : decode c_W_count 1 = .ok (.tableswitch 144 0 14 #[75, 83, 91, 99, 107, 144, 144, 144, 144, 144, 144, 115, 120, 128, 136], 75) := by decide +kernel
theorem dd_W_count_76 : decode c_W_count 76 = .ok (.aload_n 0, 1) := by decide +kernel
theorem dd_W_count_77 : decode c_W_count 77 = .ok (.getfield 42, 3) := by decide +kernel
theorem dd_W_count_80 : decode c_W_count 80 = .ok (.getfield 121, 3) := by decide +kernel
theorem dd_W_count_83 : decode c_W_count 83 = .ok (.ireturn, 1) := by decide +kernel
theorem dd_W_count_84 : decode c_W_count 84 = .ok (.aload_n 0, 1) := by decide +kernel
theorem dd_W_count_85 : decode c_W_count 85 = .ok (.getfield 42, 3) := by decide +kernel
theorem dd_W_count_88 : decode c_W_count 88 = .ok (.getfield 250, 3) := by decide +kernel
theorem dd_W_count_91 : decode c_W_count 91 = .ok (.ireturn, 1) := by decide +kernel
theorem dd_W_count_92 : decode c_W_count 92 = .ok (.aload_n 0, 1) := by decide +kernel
theorem dd_W_count_93 : decode c_W_count 93 = .ok (.getfield 35, 3) := by decide +kernel
theorem dd_W_count_96 : decode c_W_count 96 = .ok (.getfield 124, 3) := by decide +kernel
theorem dd_W_count_99 : decode c_W_count 99 = .ok (.ireturn, 1) := by decide +kernel
theorem dd_W_count_100 : decode c_W_count 100 = .ok (.aload_n 0, 1) := by decide +kernel
theorem dd_W_count_101 : decode c_W_count 101 = .ok (.getfield 12, 3) := by decide +kernel
theorem dd_W_count_104 : decode c_W_count 104 = .ok (.getfield 106, 3) := by decide +kernel
theorem dd_W_count_107 : decode c_W_count 107 = .ok (.ireturn, 1) := by decide +kernel
theorem dd_W_count_108 : decode c_W_count 108 = .ok (.aload_n 0, 1) := by decide +kernel
theorem dd_W_count_109 : decode c_W_count 109 = .ok (.getfield 35, 3) := by decide +kernel
theorem dd_W_count_112 : decode c_W_count 112 = .ok (.getfield 192, 3) := by decide +kernel
theorem dd_W_count_115 : decode c_W_count 115 = .ok (.ireturn, 1) := by decide +kernel
theorem dd_W_count_116 : decode c_W_count 116 = .ok (.aload_n 0, 1) := by decide +kernel
theorem dd_W_count_117 : decode c_W_count 117 = .ok (.getfield 98, 3) := by decide +kernel
theorem dd_W_count_120 : decode c_W_count 120 = .ok (.ireturn, 1) := by decide +kernel
theorem dd_W_count_121 : decode c_W_count 121 = .ok (.aload_n 0, 1) := by decide +kernel
theorem dd_W_count_122 : decode c_W_count 122 = .ok (.getfield 74, 3) := by decide +kernel
theorem dd_W_count_125 : decode c_W_count 125 = .ok (.getfield 147, 3) := by decide +kernel
theorem dd_W_count_128 : decode c_W_count 128 = .ok (.ireturn, 1) := by decide +kernel
theorem dd_W_count_129 : decode c_W_count 129 = .ok (.aload_n 0, 1) := by decide +kernel
theorem dd_W_count_130 : decode c_W_count 130 = .ok (.getfield 49, 3) := by decide +kernel
theorem dd_W_count_133 : decode c_W_count 133 = .ok (.invokevirtual 271, 3) := by decide +kernel
theorem dd_W_count_136 : decode c_W_count 136 = .ok (.ireturn, 1) := by decide +kernel
theorem dd_W_count_137 : decode c_W_count 137 = .ok (.aload_n 0, 1) := by decide +kernel
theorem dd_W_count_138 : decode c_W_count 138 = .ok (.getfield 56, 3) := by decide +kernel
theorem dd_W_count_141 : decode c_W_count 141 = .ok (.getfield 265, 3) := by decide +kernel
theorem dd_W_count_144 : decode c_W_count 144 = .ok (.ireturn, 1) := by decide +kernel
theorem dd_W_count_145 : decode c_W_count 145 = .ok (.aload_n 0, 1) := by decide +kernel
theorem dd_W_count_146 : decode c_W_count 146 = .ok (.iload_n 1, 1) := by decide +kernel
theorem dd_W_count_147 : decode c_W_count 147 = .ok (.invokevirtual 375, 3) := by decide +kernel
theorem dd_W_count_150 : decode c_W_count 150 = .ok (.ireturn, 1) := by decide +kernel
theorem dd_M_count_0 : decode c_M_count 0 = .ok (.iload_n 1, 1) := by decide +kernel
theorem dd_M_count_1 : decode c_M_count 1 = .ok (.tableswitch 171 0 14 #[75, 80, 85, 90, 95, 100, 108, 116, 124, 132, 140, 148, 153, 158, 166], 75) := by decide +kernel
theorem dd_M_count_76 : decode c_M_count 76 = .ok (.aload_n 0, 1) := by decide +kernel
theorem dd_M_count_77 : decode c_M_count 77 = .ok (.getfield 242, 3) := by decide +kernel
theorem dd_M_count_80 : decode c_M_count 80 = .ok (.ireturn, 1) := by decide +kernel
theorem dd_M_count_81 : decode c_M_count 81 = .ok (.aload_n 0, 1) := by decide +kernel
theorem dd_M_count_82 : decode c_M_count 82 = .ok (.getfield 245, 3) := by decide +kernel
theorem dd_M_count_85 : decode c_M_count 85 = .ok (.ireturn, 1) := by decide +kernel
theorem dd_M_count_86 : decode c_M_count 86 = .ok (.aload_n 0, 1) := by decide +kernel
theorem dd_M_count_87 : decode c_M_count 87 = .ok (.getfield 267, 3) := by decide +kernel
theorem dd_M_count_90 : decode c_M_count 90 = .ok (.ireturn, 1) := by decide +kernel
theorem dd_M_count_91 : decode c_M_count 91 = .ok (.aload_n 0, 1) := by decide +kernel
theorem dd_M_count_92 : decode c_M_count 92 = .ok (.getfield 97, 3) := by decide +kernel
theorem dd_M_count_95 : decode c_M_count 95 = .ok (.ireturn, 1) := by decide +kernel
theorem dd_M_count_96 : decode c_M_count 96 = .ok (.aload_n 0, 1) := by decide +kernel
theorem dd_M_count_97 : decode c_M_count 97 = .ok (.getfield 64, 3) := by decide +kernel
theorem dd_M_count_100 : decode c_M_count 100 = .ok (.ireturn, 1) := by decide +kernel
theorem dd_M_count_101 : decode c_M_count 101 = .ok (.aload_n 0, 1) := by decide +kernel
theorem dd_M_count_102 : decode c_M_count 102 = .ok (.getfield 58, 3) := by decide +kernel
theorem dd_M_count_105 : decode c_M_count 105 = .ok (.bipush 45, 2) := by decide +kernel
theorem dd_M_count_107 : decode c_M_count 107 = .ok (.iaload, 1) := by decide +kernel
theorem dd_M_count_108 : decode c_M_count 108 = .ok (.ireturn, 1) := by decide +kernel
theorem dd_M_count_109 : decode c_M_count 109 = .ok (.aload_n 0, 1) := by decide +kernel
theorem dd_M_count_110 : decode c_M_count 110 = .ok (.getfield 58, 3) := by decide +kernel
theorem dd_M_count_113 : decode c_M_count 113 = .ok (.bipush 42, 2) := by decide +kernel
theorem dd_M_count_115 : decode c_M_count 115 = .ok (.iaload, 1) := by decide +kernel
theorem dd_M_count_116 : decode c_M_count 116 = .ok (.ireturn, 1) := by decide +kernel
theorem dd_M_count_117 : decode c_M_count 117 = .ok (.aload_n 0, 1) := by decide +kernel
theorem dd_M_count_118 : decode c_M_count 118 = .ok (.getfield 58, 3) := by decide +kernel
theorem dd_M_count_121 : decode c_M_count 121 = .ok (.bipush 43, 2) := by decide +kernel
theorem dd_M_count_123 : decode c_M_count 123 = .ok (.iaload, 1) := by decide +kernel
theorem dd_M_count_124 : decode c_M_count 124 = .ok (.ireturn, 1) := by decide +kernel
theorem dd_M_count_125 : decode c_M_count 125 = .ok (.aload_n 0, 1) := by decide +kernel
theorem dd_M_count_126 : decode c_M_count 126 = .ok (.getfield 58, 3) := by decide +kernel
theorem dd_M_count_129 : decode c_M_count 129 = .ok (.bipush 44, 2) := by decide +kernel
theorem dd_M_count_131 : decode c_M_count 131 = .ok (.iaload, 1) := by decide +kernel
theorem dd_M_count_132 : decode c_M_count 132 = .ok (.ireturn, 1) := by decide +kernel
theorem dd_M_count_133 : decode c_M_count 133 = .ok (.aload_n 0, 1) := by decide +kernel
theorem dd_M_count_134 : decode c_M_count 134 = .ok (.getfield 58, 3) := by decide +kernel
theorem dd_M_count_137 : decode c_M_count 137 = .ok (.bipush 46, 2) := by decide +kernel
theorem dd_M_count_139 : decode c_M_count 139 = .ok (.iaload, 1) := by decide +kernel
theorem dd_M_count_140 : decode c_M_count 140 = .ok (.ireturn, 1) := by decide +kernel
theorem dd_M_count_141 : decode c_M_count 141 = .ok (.aload_n 0, 1) := by decide +kernel
theorem dd_M_count_142 : decode c_M_count 142 = .ok (.getfield 58, 3) := by decide +kernel
theorem dd_M_count_145 : decode c_M_count 145 = .ok (.bipush 47, 2) := by decide +kernel
theorem dd_M_count_147 : decode c_M_count 147 = .ok (.iaload, 1) := by decide +kernel
theorem dd_M_count_148 : decode c_M_count 148 = .ok (.ireturn, 1) := by decide +kernel
theorem dd_M_count_149 : decode c_M_count 149 = .ok (.aload_n 0, 1) := by decide +kernel
theorem dd_M_count_150 : decode c_M_count 150 = .ok (.getfield 68, 3) := by decide +kernel
theorem dd_M_count_153 : decode c_M_count 153 = .ok (.ireturn, 1) := by decide +kernel
theorem dd_M_count_154 : decode c_M_count 154 = .ok (.aload_n 0, 1) := by decide +kernel
theorem dd_M_count_155 : decode c_M_count 155 = .ok (.getfield 254, 3) := by decide +kernel
theorem dd_M_count_158 : decode c_M_count 158 = .ok (.ireturn, 1) := by decide +kernel
theorem dd_M_count_159 : decode c_M_count 159 = .ok (.aload_n 0, 1) := by decide +kernel
theorem dd_M_count_160 : decode c_M_count 160 = .ok (.getfield 58, 3) := by decide +kernel
theorem dd_M_count_163 : decode c_M_count 163 = .ok (.bipush 48, 2) := by decide +kernel
theorem dd_M_count_165 : decode c_M_count 165 = .ok (.iaload, 1) := by decide +kernel
theorem dd_M_count_166 : decode c_M_count 166 = .ok (.ireturn, 1) := by decide +kernel
theorem dd_M_count_167 : decode c_M_count 167 = .ok (.aload_n 0, 1) := by decide +kernel
theorem dd_M_count_168 : decode c_M_count 168 = .ok (.getfield 257, 3) := by decide +kernel
theorem dd_M_count_171 : decode c_M_count 171 = .ok (.ireturn, 1) := by decide +kernel
theorem dd_M_count_172 : decode c_M_count 172 = .ok (.ldc_w 383, 3) := by decide +kernel
theorem dd_M_count_175 : decode c_M_count 175 = .ok (.ireturn, 1) := by decide +kernel
theorem dd_W_tale_0 : decode c_W_tale 0 = .ok (.aload_n 0, 1) := by decide +kernel
theorem dd_W_tale_1 : decode c_W_tale 1 = .ok (.getfield 42, 3) := by decide +kernel
theorem dd_W_tale_4 : decode c_W_tale 4 = .ok (.iload_n 1, 1) := by decide +kernel
theorem dd_W_tale_5 : decode c_W_tale 5 = .ok (.invokevirtual 163, 3) := by decide +kernel
theorem dd_W_tale_8 : decode c_W_tale 8 = .ok (.ifCond .eq 12, 3) := by decide +kernel
theorem dd_W_tale_11 : decode c_W_tale 11 = .ok (.iload_n 2, 1) := by decide +kernel
theorem dd_W_tale_12 : decode c_W_tale 12 = .ok (.ifCond .lt 8, 3) := by decide +kernel
theorem dd_W_tale_15 : decode c_W_tale 15 = .ok (.iload_n 2, 1) := by decide +kernel
theorem dd_W_tale_16 : decode c_W_tale 16 = .ok (.iconst 3, 1) := by decide +kernel
theorem dd_W_tale_17 : decode c_W_tale 17 = .ok (.if_icmp .le 11, 3) := by decide +kernel
theorem dd_W_tale_20 : decode c_W_tale 20 = .ok (.new 166, 3) := by decide +kernel
theorem dd_W_tale_23 : decode c_W_tale 23 = .ok (.dup, 1) := by decide +kernel
theorem dd_W_tale_24 : decode c_W_tale 24 = .ok (.invokespecial 168, 3) := by decide +kernel
theorem dd_W_tale_27 : decode c_W_tale 27 = .ok (.athrow, 1) := by decide +kernel
theorem dd_W_tale_28 : decode c_W_tale 28 = .ok (.iload_n 2, 1) := by decide +kernel
theorem dd_W_tale_29 : decode c_W_tale 29 = .ok (.tableswitch 57 0 2 #[27, 37, 47], 27) := by decide +kernel
theorem dd_W_tale_56 : decode c_W_tale 56 = .ok (.aload_n 0, 1) := by decide +kernel
theorem dd_W_tale_57 : decode c_W_tale 57 = .ok (.getfield 42, 3) := by decide +kernel
theorem dd_W_tale_60 : decode c_W_tale 60 = .ok (.getfield 169, 3) := by decide +kernel
theorem dd_W_tale_63 : decode c_W_tale 63 = .ok (.iload_n 1, 1) := by decide +kernel
theorem dd_W_tale_64 : decode c_W_tale 64 = .ok (.iaload, 1) := by decide +kernel
theorem dd_W_tale_65 : decode c_W_tale 65 = .ok (.ireturn, 1) := by decide +kernel
theorem dd_W_tale_66 : decode c_W_tale 66 = .ok (.aload_n 0, 1) := by decide +kernel
theorem dd_W_tale_67 : decode c_W_tale 67 = .ok (.getfield 49, 3) := by decide +kernel
theorem dd_W_tale_70 : decode c_W_tale 70 = .ok (.getfield 172, 3) := by decide +kernel
theorem dd_W_tale_73 : decode c_W_tale 73 = .ok (.iload_n 1, 1) := by decide +kernel
theorem dd_W_tale_74 : decode c_W_tale 74 = .ok (.iaload, 1) := by decide +kernel
theorem dd_W_tale_75 : decode c_W_tale 75 = .ok (.ireturn, 1) := by decide +kernel
theorem dd_W_tale_76 : decode c_W_tale 76 = .ok (.aload_n 0, 1) := by decide +kernel
theorem dd_W_tale_77 : decode c_W_tale 77 = .ok (.getfield 42, 3) := by decide +kernel
theorem dd_W_tale_80 : decode c_W_tale 80 = .ok (.getfield 175, 3) := by decide +kernel
theorem dd_W_tale_83 : decode c_W_tale 83 = .ok (.iload_n 1, 1) := by decide +kernel
theorem dd_W_tale_84 : decode c_W_tale 84 = .ok (.iaload, 1) := by decide +kernel
theorem dd_W_tale_85 : decode c_W_tale 85 = .ok (.ireturn, 1) := by decide +kernel
theorem dd_W_tale_86 : decode c_W_tale 86 = .ok (.aload_n 0, 1) := by decide +kernel
theorem dd_W_tale_87 : decode c_W_tale 87 = .ok (.getfield 49, 3) := by decide +kernel
theorem dd_W_tale_90 : decode c_W_tale 90 = .ok (.iload_n 1, 1) := by decide +kernel
theorem dd_W_tale_91 : decode c_W_tale 91 = .ok (.invokevirtual 178, 3) := by decide +kernel
theorem dd_W_tale_94 : decode c_W_tale 94 = .ok (.ifCond .eq 7, 3) := by decide +kernel
theorem dd_W_tale_97 : decode c_W_tale 97 = .ok (.iconst 1, 1) := by decide +kernel
theorem dd_W_tale_98 : decode c_W_tale 98 = .ok (.goto 4, 3) := by decide +kernel
theorem dd_W_tale_101 : decode c_W_tale 101 = .ok (.iconst 0, 1) := by decide +kernel
theorem dd_W_tale_102 : decode c_W_tale 102 = .ok (.ireturn, 1) := by decide +kernel
