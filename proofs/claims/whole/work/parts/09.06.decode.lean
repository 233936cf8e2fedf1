/-! ===== decode rows ===== -/
theorem dd_Guess_fitting_0 : decode c_Guess_fitting 0 = .ok (.iconst 0, 1) := by decide +kernel
theorem dd_Guess_fitting_1 : decode c_Guess_fitting 1 = .ok (.istore_n 1, 1) := by decide +kernel
theorem dd_Guess_fitting_2 : decode c_Guess_fitting 2 = .ok (.iconst 0, 1) := by decide +kernel
theorem dd_Guess_fitting_3 : decode c_Guess_fitting 3 = .ok (.istore_n 2, 1) := by decide +kernel
theorem dd_Guess_fitting_4 : decode c_Guess_fitting 4 = .ok (.iload_n 2, 1) := by decide +kernel
theorem dd_Guess_fitting_5 : decode c_Guess_fitting 5 = .ok (.aload_n 0, 1) := by decide +kernel
theorem dd_Guess_fitting_6 : decode c_Guess_fitting 6 = .ok (.getfield 22, 3) := by decide +kernel
theorem dd_Guess_fitting_9 : decode c_Guess_fitting 9 = .ok (.getfield 34, 3) := by decide +kernel
theorem dd_Guess_fitting_12 : decode c_Guess_fitting 12 = .ok (.if_icmp .ge 23, 3) := by decide +kernel
theorem dd_Guess_fitting_15 : decode c_Guess_fitting 15 = .ok (.aload_n 0, 1) := by decide +kernel
theorem dd_Guess_fitting_16 : decode c_Guess_fitting 16 = .ok (.iload_n 2, 1) := by decide +kernel
theorem dd_Guess_fitting_17 : decode c_Guess_fitting 17 = .ok (.invokevirtual 39, 3) := by decide +kernel
theorem dd_Guess_fitting_20 : decode c_Guess_fitting 20 = .ok (.ifCond .eq 9, 3) := by decide +kernel
theorem dd_Guess_fitting_23 : decode c_Guess_fitting 23 = .ok (.iload_n 1, 1) := by decide +kernel
theorem dd_Guess_fitting_24 : decode c_Guess_fitting 24 = .ok (.iconst 1, 1) := by decide +kernel
theorem dd_Guess_fitting_25 : decode c_Guess_fitting 25 = .ok (.iload_n 2, 1) := by decide +kernel
theorem dd_Guess_fitting_26 : decode c_Guess_fitting 26 = .ok (.ishl, 1) := by decide +kernel
theorem dd_Guess_fitting_27 : decode c_Guess_fitting 27 = .ok (.ior, 1) := by decide +kernel
theorem dd_Guess_fitting_28 : decode c_Guess_fitting 28 = .ok (.istore_n 1, 1) := by decide +kernel
theorem dd_Guess_fitting_29 : decode c_Guess_fitting 29 = .ok (.iinc 2 1, 3) := by decide +kernel
theorem dd_Guess_fitting_32 : decode c_Guess_fitting 32 = .ok (.goto (-28), 3) := by decide +kernel
theorem dd_Guess_fitting_35 : decode c_Guess_fitting 35 = .ok (.iload_n 1, 1) := by decide +kernel
theorem dd_Guess_fitting_36 : decode c_Guess_fitting 36 = .ok (.ireturn, 1) := by decide +kernel
theorem dd_Guess_bitAt_0 : decode c_Guess_bitAt 0 = .ok (.iload_n 1, 1) := by decide +kernel
theorem dd_Guess_bitAt_1 : decode c_Guess_bitAt 1 = .ok (.istore_n 2, 1) := by decide +kernel
theorem dd_Guess_bitAt_2 : decode c_Guess_bitAt 2 = .ok (.iconst 0, 1) := by decide +kernel
theorem dd_Guess_bitAt_3 : decode c_Guess_bitAt 3 = .ok (.istore_n 3, 1) := by decide +kernel
theorem dd_Guess_bitAt_4 : decode c_Guess_bitAt 4 = .ok (.iload_n 3, 1) := by decide +kernel
theorem dd_Guess_bitAt_5 : decode c_Guess_bitAt 5 = .ok (.bipush 6, 2) := by decide +kernel
theorem dd_Guess_bitAt_7 : decode c_Guess_bitAt 7 = .ok (.if_icmp .ge 26, 3) := by decide +kernel
theorem dd_Guess_bitAt_10 : decode c_Guess_bitAt 10 = .ok (.iload_n 0, 1) := by decide +kernel
theorem dd_Guess_bitAt_11 : decode c_Guess_bitAt 11 = .ok (.iload_n 3, 1) := by decide +kernel
theorem dd_Guess_bitAt_12 : decode c_Guess_bitAt 12 = .ok (.ishr, 1) := by decide +kernel
theorem dd_Guess_bitAt_13 : decode c_Guess_bitAt 13 = .ok (.iconst 1, 1) := by decide +kernel
theorem dd_Guess_bitAt_14 : decode c_Guess_bitAt 14 = .ok (.iand, 1) := by decide +kernel
theorem dd_Guess_bitAt_15 : decode c_Guess_bitAt 15 = .ok (.ifCond .eq 12, 3) := by decide +kernel
theorem dd_Guess_bitAt_18 : decode c_Guess_bitAt 18 = .ok (.iload_n 2, 1) := by decide +kernel
theorem dd_Guess_bitAt_19 : decode c_Guess_bitAt 19 = .ok (.ifCond .ne 5, 3) := by decide +kernel
theorem dd_Guess_bitAt_22 : decode c_Guess_bitAt 22 = .ok (.iload_n 3, 1) := by decide +kernel
theorem dd_Guess_bitAt_23 : decode c_Guess_bitAt 23 = .ok (.ireturn, 1) := by decide +kernel
theorem dd_Guess_bitAt_24 : decode c_Guess_bitAt 24 = .ok (.iinc 2 (-1), 3) := by decide +kernel
theorem dd_Guess_bitAt_27 : decode c_Guess_bitAt 27 = .ok (.iinc 3 1, 3) := by decide +kernel
theorem dd_Guess_bitAt_30 : decode c_Guess_bitAt 30 = .ok (.goto (-26), 3) := by decide +kernel
theorem dd_Guess_bitAt_33 : decode c_Guess_bitAt 33 = .ok (.iconst (-1), 1) := by decide +kernel
theorem dd_Guess_bitAt_34 : decode c_Guess_bitAt 34 = .ok (.ireturn, 1) := by decide +kernel
theorem dd_W_told_0 : decode c_W_told 0 = .ok (.aload_n 0, 1) := by decide +kernel
theorem dd_W_told_1 : decode c_W_told 1 = .ok (.getfield 42, 3) := by decide +kernel
theorem dd_W_told_4 : decode c_W_told 4 = .ok (.invokevirtual 235, 3) := by decide +kernel
theorem dd_W_told_7 : decode c_W_told 7 = .ok (.ifCond .ne 5, 3) := by decide +kernel
theorem dd_W_told_10 : decode c_W_told 10 = .ok (.iconst (-1), 1) := by decide +kernel
theorem dd_W_told_11 : decode c_W_told 11 = .ok (.ireturn, 1) := by decide +kernel
theorem dd_W_told_12 : decode c_W_told 12 = .ok (.aload_n 0, 1) := by decide +kernel
theorem dd_W_told_13 : decode c_W_told 13 = .ok (.getfield 74, 3) := by decide +kernel
theorem dd_W_told_16 : decode c_W_told 16 = .ok (.invokevirtual 305, 3) := by decide +kernel
theorem dd_W_told_19 : decode c_W_told 19 = .ok (.istore_n 2, 1) := by decide +kernel
theorem dd_W_told_20 : decode c_W_told 20 = .ok (.iload_n 1, 1) := by decide +kernel
theorem dd_W_told_21 : decode c_W_told 21 = .ok (.iconst (-1), 1) := by decide +kernel
theorem dd_W_told_22 : decode c_W_told 22 = .ok (.if_icmp .ne 10, 3) := by decide +kernel
theorem dd_W_told_25 : decode c_W_told 25 = .ok (.iload_n 2, 1) := by decide +kernel
theorem dd_W_told_26 : decode c_W_told 26 = .ok (.invokestatic 230, 3) := by decide +kernel
theorem dd_W_told_29 : decode c_W_told 29 = .ok (.goto 8, 3) := by decide +kernel
theorem dd_W_told_32 : decode c_W_told 32 = .ok (.iload_n 2, 1) := by decide +kernel
theorem dd_W_told_33 : decode c_W_told 33 = .ok (.iload_n 1, 1) := by decide +kernel
theorem dd_W_told_34 : decode c_W_told 34 = .ok (.invokestatic 308, 3) := by decide +kernel
theorem dd_W_told_37 : decode c_W_told 37 = .ok (.ireturn, 1) := by decide +kernel
theorem dd_M_toldNights_0 : decode c_M_toldNights 0 = .ok (.aload_n 0, 1) := by decide +kernel
theorem dd_M_toldNights_1 : decode c_M_toldNights 1 = .ok (.iload_n 1, 1) := by decide +kernel
theorem dd_M_toldNights_2 : decode c_M_toldNights 2 = .ok (.iload_n 2, 1) := by decide +kernel
theorem dd_M_toldNights_3 : decode c_M_toldNights 3 = .ok (.aload_n 0, 1) := by decide +kernel
theorem dd_M_toldNights_4 : decode c_M_toldNights 4 = .ok (.iload_n 2, 1) := by decide +kernel
theorem dd_M_toldNights_5 : decode c_M_toldNights 5 = .ok (.iconst 1, 1) := by decide +kernel
theorem dd_M_toldNights_6 : decode c_M_toldNights 6 = .ok (.invokevirtual 248, 3) := by decide +kernel
theorem dd_M_toldNights_9 : decode c_M_toldNights 9 = .ok (.aload_n 0, 1) := by decide +kernel
theorem dd_M_toldNights_10 : decode c_M_toldNights 10 = .ok (.iload_n 1, 1) := by decide +kernel
theorem dd_M_toldNights_11 : decode c_M_toldNights 11 = .ok (.iconst 0, 1) := by decide +kernel
theorem dd_M_toldNights_12 : decode c_M_toldNights 12 = .ok (.invokevirtual 251, 3) := by decide +kernel
theorem dd_M_toldNights_15 : decode c_M_toldNights 15 = .ok (.iload_n 2, 1) := by decide +kernel
theorem dd_M_toldNights_16 : decode c_M_toldNights 16 = .ok (.ishr, 1) := by decide +kernel
theorem dd_M_toldNights_17 : decode c_M_toldNights 17 = .ok (.iconst 1, 1) := by decide +kernel
theorem dd_M_toldNights_18 : decode c_M_toldNights 18 = .ok (.iand, 1) := by decide +kernel
theorem dd_M_toldNights_19 : decode c_M_toldNights 19 = .ok (.invokevirtual 280, 3) := by decide +kernel
theorem dd_M_toldNights_22 : decode c_M_toldNights 22 = .ok (.ireturn, 1) := by decide +kernel
theorem dd_M_isTold_0 : decode c_M_isTold 0 = .ok (.iconst 0, 1) := by decide +kernel
theorem dd_M_isTold_1 : decode c_M_isTold 1 = .ok (.istore_n 2, 1) := by decide +kernel
theorem dd_M_isTold_2 : decode c_M_isTold 2 = .ok (.iload_n 2, 1) := by decide +kernel
theorem dd_M_isTold_3 : decode c_M_isTold 3 = .ok (.aload_n 0, 1) := by decide +kernel
theorem dd_M_isTold_4 : decode c_M_isTold 4 = .ok (.getfield 254, 3) := by decide +kernel
theorem dd_M_isTold_7 : decode c_M_isTold 7 = .ok (.if_icmp .ge 45, 3) := by decide +kernel
theorem dd_M_isTold_10 : decode c_M_isTold 10 = .ok (.aload_n 0, 1) := by decide +kernel
theorem dd_M_isTold_11 : decode c_M_isTold 11 = .ok (.aload_n 0, 1) := by decide +kernel
theorem dd_M_isTold_12 : decode c_M_isTold 12 = .ok (.getfield 77, 3) := by decide +kernel
theorem dd_M_isTold_15 : decode c_M_isTold 15 = .ok (.iload_n 2, 1) := by decide +kernel
theorem dd_M_isTold_16 : decode c_M_isTold 16 = .ok (.iaload, 1) := by decide +kernel
theorem dd_M_isTold_17 : decode c_M_isTold 17 = .ok (.iload_n 1, 1) := by decide +kernel
theorem dd_M_isTold_18 : decode c_M_isTold 18 = .ok (.invokevirtual 374, 3) := by decide +kernel
theorem dd_M_isTold_21 : decode c_M_isTold 21 = .ok (.aload_n 0, 1) := by decide +kernel
theorem dd_M_isTold_22 : decode c_M_isTold 22 = .ok (.getfield 80, 3) := by decide +kernel
theorem dd_M_isTold_25 : decode c_M_isTold 25 = .ok (.iload_n 2, 1) := by decide +kernel
theorem dd_M_isTold_26 : decode c_M_isTold 26 = .ok (.iaload, 1) := by decide +kernel
theorem dd_M_isTold_27 : decode c_M_isTold 27 = .ok (.if_icmp .lt 7, 3) := by decide +kernel
theorem dd_M_isTold_30 : decode c_M_isTold 30 = .ok (.iconst 1, 1) := by decide +kernel
theorem dd_M_isTold_31 : decode c_M_isTold 31 = .ok (.goto 4, 3) := by decide +kernel
theorem dd_M_isTold_34 : decode c_M_isTold 34 = .ok (.iconst 0, 1) := by decide +kernel
theorem dd_M_isTold_35 : decode c_M_isTold 35 = .ok (.aload_n 0, 1) := by decide +kernel
theorem dd_M_isTold_36 : decode c_M_isTold 36 = .ok (.getfield 83, 3) := by decide +kernel
theorem dd_M_isTold_39 : decode c_M_isTold 39 = .ok (.iload_n 2, 1) := by decide +kernel
theorem dd_M_isTold_40 : decode c_M_isTold 40 = .ok (.baload, 1) := by decide +kernel
theorem dd_M_isTold_41 : decode c_M_isTold 41 = .ok (.if_icmp .eq 5, 3) := by decide +kernel
theorem dd_M_isTold_44 : decode c_M_isTold 44 = .ok (.iconst 0, 1) := by decide +kernel
theorem dd_M_isTold_45 : decode c_M_isTold 45 = .ok (.ireturn, 1) := by decide +kernel
theorem dd_M_isTold_46 : decode c_M_isTold 46 = .ok (.iinc 2 1, 3) := by decide +kernel
theorem dd_M_isTold_49 : decode c_M_isTold 49 = .ok (.goto (-47), 3) := by decide +kernel
theorem dd_M_isTold_52 : decode c_M_isTold 52 = .ok (.iconst 1, 1) := by decide +kernel
theorem dd_M_isTold_53 : decode c_M_isTold 53 = .ok (.ireturn, 1) := by decide +kernel
theorem dd_M_told_0 : decode c_M_told 0 = .ok (.aload_n 0, 1) := by decide +kernel
theorem dd_M_told_1 : decode c_M_told 1 = .ok (.getfield 242, 3) := by decide +kernel
theorem dd_M_told_4 : decode c_M_told 4 = .ok (.ifCond .eq 8, 3) := by decide +kernel
theorem dd_M_told_7 : decode c_M_told 7 = .ok (.iload_n 1, 1) := by decide +kernel
theorem dd_M_told_8 : decode c_M_told 8 = .ok (.iconst (-1), 1) := by decide +kernel
theorem dd_M_told_9 : decode c_M_told 9 = .ok (.if_icmp .ge 5, 3) := by decide +kernel
theorem dd_M_told_12 : decode c_M_told 12 = .ok (.iconst (-1), 1) := by decide +kernel
theorem dd_M_told_13 : decode c_M_told 13 = .ok (.ireturn, 1) := by decide +kernel
theorem dd_M_told_14 : decode c_M_told 14 = .ok (.iconst 0, 1) := by decide +kernel
theorem dd_M_told_15 : decode c_M_told 15 = .ok (.istore_n 2, 1) := by decide +kernel
theorem dd_M_told_16 : decode c_M_told 16 = .ok (.iconst 0, 1) := by decide +kernel
theorem dd_M_told_17 : decode c_M_told 17 = .ok (.istore_n 3, 1) := by decide +kernel
theorem dd_M_told_18 : decode c_M_told 18 = .ok (.iload_n 3, 1) := by decide +kernel
theorem dd_M_told_19 : decode c_M_told 19 = .ok (.aload_n 0, 1) := by decide +kernel
theorem dd_M_told_20 : decode c_M_told 20 = .ok (.getfield 245, 3) := by decide +kernel
theorem dd_M_told_23 : decode c_M_told 23 = .ok (.if_icmp .ge 27, 3) := by decide +kernel
theorem dd_M_told_26 : decode c_M_told 26 = .ok (.aload_n 0, 1) := by decide +kernel
theorem dd_M_told_27 : decode c_M_told 27 = .ok (.iload_n 3, 1) := by decide +kernel
theorem dd_M_told_28 : decode c_M_told 28 = .ok (.invokevirtual 377, 3) := by decide +kernel
theorem dd_M_told_31 : decode c_M_told 31 = .ok (.ifCond .eq 13, 3) := by decide +kernel
theorem dd_M_told_34 : decode c_M_told 34 = .ok (.iload_n 2, 1) := by decide +kernel
theorem dd_M_told_35 : decode c_M_told 35 = .ok (.iload_n 1, 1) := by decide +kernel
theorem dd_M_told_36 : decode c_M_told 36 = .ok (.if_icmp .ne 5, 3) := by decide +kernel
theorem dd_M_told_39 : decode c_M_told 39 = .ok (.iload_n 3, 1) := by decide +kernel
theorem dd_M_told_40 : decode c_M_told 40 = .ok (.ireturn, 1) := by decide +kernel
theorem dd_M_told_41 : decode c_M_told 41 = .ok (.iinc 2 1, 3) := by decide +kernel
theorem dd_M_told_44 : decode c_M_told 44 = .ok (.iinc 3 1, 3) := by decide +kernel
theorem dd_M_told_47 : decode c_M_told 47 = .ok (.goto (-29), 3) := by decide +kernel
theorem dd_M_told_50 : decode c_M_told 50 = .ok (.iload_n 1, 1) := by decide +kernel
theorem dd_M_told_51 : decode c_M_told 51 = .ok (.iconst (-1), 1) := by decide +kernel
theorem dd_M_told_52 : decode c_M_told 52 = .ok (.if_icmp .ne 7, 3) := by decide +kernel
theorem dd_M_told_55 : decode c_M_told 55 = .ok (.iload_n 2, 1) := by decide +kernel
theorem dd_M_told_56 : decode c_M_told 56 = .ok (.goto 4, 3) := by decide +kernel
theorem dd_M_told_59 : decode c_M_told 59 = .ok (.iconst (-1), 1) := by decide +kernel
theorem dd_M_told_60 : decode c_M_told 60 = .ok (.ireturn, 1) := by decide +kernel
theorem dd_Guess_apartIn_0 : decode c_Guess_apartIn 0 = .ok (.iconst 0, 1) := by decide +kernel
theorem dd_Guess_apartIn_1 : decode c_Guess_apartIn 1 = .ok (.istore 4, 2) := by decide +kernel
theorem dd_Guess_apartIn_3 : decode c_Guess_apartIn 3 = .ok (.iconst 0, 1) := by decide +kernel
theorem dd_Guess_apartIn_4 : decode c_Guess_apartIn 4 = .ok (.istore 5, 2) := by decide +kernel
theorem dd_Guess_apartIn_6 : decode c_Guess_apartIn 6 = .ok (.iload 5, 2) := by decide +kernel
theorem dd_Guess_apartIn_8 : decode c_Guess_apartIn 8 = .ok (.aload_n 0, 1) := by decide +kernel
theorem dd_Guess_apartIn_9 : decode c_Guess_apartIn 9 = .ok (.getfield 22, 3) := by decide +kernel
theorem dd_Guess_apartIn_12 : decode c_Guess_apartIn 12 = .ok (.getfield 34, 3) := by decide +kernel
theorem dd_Guess_apartIn_15 : decode c_Guess_apartIn 15 = .ok (.if_icmp .ge 42, 3) := by decide +kernel
theorem dd_Guess_apartIn_18 : decode c_Guess_apartIn 18 = .ok (.iload_n 3, 1) := by decide +kernel
theorem dd_Guess_apartIn_19 : decode c_Guess_apartIn 19 = .ok (.iload 5, 2) := by decide +kernel
theorem dd_Guess_apartIn_21 : decode c_Guess_apartIn 21 = .ok (.ishr, 1) := by decide +kernel
theorem dd_Guess_apartIn_22 : decode c_Guess_apartIn 22 = .ok (.iconst 1, 1) := by decide +kernel
theorem dd_Guess_apartIn_23 : decode c_Guess_apartIn 23 = .ok (.iand, 1) := by decide +kernel
theorem dd_Guess_apartIn_24 : decode c_Guess_apartIn 24 = .ok (.ifCond .eq 27, 3) := by decide +kernel
theorem dd_Guess_apartIn_27 : decode c_Guess_apartIn 27 = .ok (.iload 4, 2) := by decide +kernel
theorem dd_Guess_apartIn_29 : decode c_Guess_apartIn 29 = .ok (.aload_n 0, 1) := by decide +kernel
theorem dd_Guess_apartIn_30 : decode c_Guess_apartIn 30 = .ok (.getfield 26, 3) := by decide +kernel
theorem dd_Guess_apartIn_33 : decode c_Guess_apartIn 33 = .ok (.iload_n 1, 1) := by decide +kernel
theorem dd_Guess_apartIn_34 : decode c_Guess_apartIn 34 = .ok (.iload 5, 2) := by decide +kernel
theorem dd_Guess_apartIn_36 : decode c_Guess_apartIn 36 = .ok (.invokevirtual 43, 3) := by decide +kernel
theorem dd_Guess_apartIn_39 : decode c_Guess_apartIn 39 = .ok (.iload_n 2, 1) := by decide +kernel
theorem dd_Guess_apartIn_40 : decode c_Guess_apartIn 40 = .ok (.if_icmp .lt 7, 3) := by decide +kernel
theorem dd_Guess_apartIn_43 : decode c_Guess_apartIn 43 = .ok (.iconst 1, 1) := by decide +kernel
theorem dd_Guess_apartIn_44 : decode c_Guess_apartIn 44 = .ok (.goto 4, 3) := by decide +kernel
theorem dd_Guess_apartIn_47 : decode c_Guess_apartIn 47 = .ok (.iconst (-1), 1) := by decide +kernel
theorem dd_Guess_apartIn_48 : decode c_Guess_apartIn 48 = .ok (.iadd, 1) := by decide +kernel
theorem dd_Guess_apartIn_49 : decode c_Guess_apartIn 49 = .ok (.istore 4, 2) := by decide +kernel
theorem dd_Guess_apartIn_51 : decode c_Guess_apartIn 51 = .ok (.iinc 5 1, 3) := by decide +kernel
theorem dd_Guess_apartIn_54 : decode c_Guess_apartIn 54 = .ok (.goto (-48), 3) := by decide +kernel
theorem dd_Guess_apartIn_57 : decode c_Guess_apartIn 57 = .ok (.iload 4, 2) := by decide +kernel
theorem dd_Guess_apartIn_59 : decode c_Guess_apartIn 59 = .ok (.invokestatic 55, 3) := by decide +kernel
theorem dd_Guess_apartIn_62 : decode c_Guess_apartIn 62 = .ok (.ireturn, 1) := by decide +kernel
theorem dd_Guess_houseToAsk_0 : decode c_Guess_houseToAsk 0 = .ok (.iconst (-1), 1) := by decide +kernel
theorem dd_Guess_houseToAsk_1 : decode c_Guess_houseToAsk 1 = .ok (.istore_n 3, 1) := by decide +kernel
theorem dd_Guess_houseToAsk_2 : decode c_Guess_houseToAsk 2 = .ok (.bipush 7, 2) := by decide +kernel
theorem dd_Guess_houseToAsk_4 : decode c_Guess_houseToAsk 4 = .ok (.istore 4, 2) := by decide +kernel
theorem dd_Guess_houseToAsk_6 : decode c_Guess_houseToAsk 6 = .ok (.iconst 0, 1) := by decide +kernel
theorem dd_Guess_houseToAsk_7 : decode c_Guess_houseToAsk 7 = .ok (.istore 5, 2) := by decide +kernel
theorem dd_Guess_houseToAsk_9 : decode c_Guess_houseToAsk 9 = .ok (.iload 5, 2) := by decide +kernel
theorem dd_Guess_houseToAsk_11 : decode c_Guess_houseToAsk 11 = .ok (.aload_n 0, 1) := by decide +kernel
theorem dd_Guess_houseToAsk_12 : decode c_Guess_houseToAsk 12 = .ok (.getfield 22, 3) := by decide +kernel
theorem dd_Guess_houseToAsk_15 : decode c_Guess_houseToAsk 15 = .ok (.getfield 49, 3) := by decide +kernel
theorem dd_Guess_houseToAsk_18 : decode c_Guess_houseToAsk 18 = .ok (.if_icmp .ge 37, 3) := by decide +kernel
theorem dd_Guess_houseToAsk_21 : decode c_Guess_houseToAsk 21 = .ok (.iload_n 2, 1) := by decide +kernel
theorem dd_Guess_houseToAsk_22 : decode c_Guess_houseToAsk 22 = .ok (.ifCond .eq 33, 3) := by decide +kernel
theorem dd_Guess_houseToAsk_25 : decode c_Guess_houseToAsk 25 = .ok (.aload_n 0, 1) := by decide +kernel
theorem dd_Guess_houseToAsk_26 : decode c_Guess_houseToAsk 26 = .ok (.iload 5, 2) := by decide +kernel
theorem dd_Guess_houseToAsk_28 : decode c_Guess_houseToAsk 28 = .ok (.iload_n 1, 1) := by decide +kernel
theorem dd_Guess_houseToAsk_29 : decode c_Guess_houseToAsk 29 = .ok (.iload_n 2, 1) := by decide +kernel
theorem dd_Guess_houseToAsk_30 : decode c_Guess_houseToAsk 30 = .ok (.invokevirtual 51, 3) := by decide +kernel
theorem dd_Guess_houseToAsk_33 : decode c_Guess_houseToAsk 33 = .ok (.istore 6, 2) := by decide +kernel
theorem dd_Guess_houseToAsk_35 : decode c_Guess_houseToAsk 35 = .ok (.iload 6, 2) := by decide +kernel
theorem dd_Guess_houseToAsk_37 : decode c_Guess_houseToAsk 37 = .ok (.iload 4, 2) := by decide +kernel
theorem dd_Guess_houseToAsk_39 : decode c_Guess_houseToAsk 39 = .ok (.if_icmp .ge 10, 3) := by decide +kernel
theorem dd_Guess_houseToAsk_42 : decode c_Guess_houseToAsk 42 = .ok (.iload 6, 2) := by decide +kernel
theorem dd_Guess_houseToAsk_44 : decode c_Guess_houseToAsk 44 = .ok (.istore 4, 2) := by decide +kernel
theorem dd_Guess_houseToAsk_46 : decode c_Guess_houseToAsk 46 = .ok (.iload 5, 2) := by decide +kernel
theorem dd_Guess_houseToAsk_48 : decode c_Guess_houseToAsk 48 = .ok (.istore_n 3, 1) := by decide +kernel
theorem dd_Guess_houseToAsk_49 : decode c_Guess_houseToAsk 49 = .ok (.iinc 5 1, 3) := by decide +kernel
theorem dd_Guess_houseToAsk_52 : decode c_Guess_houseToAsk 52 = .ok (.goto (-43), 3) := by decide +kernel
theorem dd_Guess_houseToAsk_55 : decode c_Guess_houseToAsk 55 = .ok (.iload_n 3, 1) := by decide +kernel
theorem dd_Guess_houseToAsk_56 : decode c_Guess_houseToAsk 56 = .ok (.ireturn, 1) := by decide +kernel
theorem dd_W_ask_0 : decode c_W_ask 0 = .ok (.aload_n 0, 1) := by decide +kernel
theorem dd_W_ask_1 : decode c_W_ask 1 = .ok (.getfield 42, 3) := by decide +kernel
theorem dd_W_ask_4 : decode c_W_ask 4 = .ok (.invokevirtual 235, 3) := by decide +kernel
theorem dd_W_ask_7 : decode c_W_ask 7 = .ok (.ifCond .eq 31, 3) := by decide +kernel
theorem dd_W_ask_10 : decode c_W_ask 10 = .ok (.iload_n 1, 1) := by decide +kernel
theorem dd_W_ask_11 : decode c_W_ask 11 = .ok (.ifCond .lt 27, 3) := by decide +kernel
theorem dd_W_ask_14 : decode c_W_ask 14 = .ok (.iload_n 1, 1) := by decide +kernel
theorem dd_W_ask_15 : decode c_W_ask 15 = .ok (.bipush 20, 2) := by decide +kernel
theorem dd_W_ask_17 : decode c_W_ask 17 = .ok (.if_icmp .gt 21, 3) := by decide +kernel
theorem dd_W_ask_20 : decode c_W_ask 20 = .ok (.aload_n 0, 1) := by decide +kernel
theorem dd_W_ask_21 : decode c_W_ask 21 = .ok (.getfield 74, 3) := by decide +kernel
theorem dd_W_ask_24 : decode c_W_ask 24 = .ok (.iload_n 1, 1) := by decide +kernel
theorem dd_W_ask_25 : decode c_W_ask 25 = .ok (.aload_n 0, 1) := by decide +kernel
theorem dd_W_ask_26 : decode c_W_ask 26 = .ok (.getfield 74, 3) := by decide +kernel
theorem dd_W_ask_29 : decode c_W_ask 29 = .ok (.invokevirtual 305, 3) := by decide +kernel
theorem dd_W_ask_32 : decode c_W_ask 32 = .ok (.invokevirtual 311, 3) := by decide +kernel
theorem dd_W_ask_35 : decode c_W_ask 35 = .ok (.goto 4, 3) := by decide +kernel
theorem dd_W_ask_38 : decode c_W_ask 38 = .ok (.iconst (-1), 1) := by decide +kernel
theorem dd_W_ask_39 : decode c_W_ask 39 = .ok (.ireturn, 1) := by decide +kernel
theorem dd_M_ask_0 : decode c_M_ask 0 = .ok (.aload_n 0, 1) := by decide +kernel
theorem dd_M_ask_1 : decode c_M_ask 1 = .ok (.getfield 242, 3) := by decide +kernel
theorem dd_M_ask_4 : decode c_M_ask 4 = .ok (.ifCond .eq 22, 3) := by decide +kernel
theorem dd_M_ask_7 : decode c_M_ask 7 = .ok (.iload_n 1, 1) := by decide +kernel
theorem dd_M_ask_8 : decode c_M_ask 8 = .ok (.iconst 0, 1) := by decide +kernel
theorem dd_M_ask_9 : decode c_M_ask 9 = .ok (.bipush 20, 2) := by decide +kernel
theorem dd_M_ask_11 : decode c_M_ask 11 = .ok (.invokestatic 205, 3) := by decide +kernel
theorem dd_M_ask_14 : decode c_M_ask 14 = .ok (.ifCond .eq 12, 3) := by decide +kernel
theorem dd_M_ask_17 : decode c_M_ask 17 = .ok (.aload_n 0, 1) := by decide +kernel
theorem dd_M_ask_18 : decode c_M_ask 18 = .ok (.iconst 0, 1) := by decide +kernel
theorem dd_M_ask_19 : decode c_M_ask 19 = .ok (.invokevirtual 380, 3) := by decide +kernel
theorem dd_M_ask_22 : decode c_M_ask 22 = .ok (.iconst (-1), 1) := by decide +kernel
theorem dd_M_ask_23 : decode c_M_ask 23 = .ok (.if_icmp .ne 5, 3) := by decide +kernel
theorem dd_M_ask_26 : decode c_M_ask 26 = .ok (.iconst (-1), 1) := by decide +kernel
theorem dd_M_ask_27 : decode c_M_ask 27 = .ok (.ireturn, 1) := by decide +kernel
theorem dd_M_ask_28 : decode c_M_ask 28 = .ok (.iconst (-1), 1) := by decide +kernel
theorem dd_M_ask_29 : decode c_M_ask 29 = .ok (.istore_n 2, 1) := by decide +kernel
theorem dd_M_ask_30 : decode c_M_ask 30 = .ok (.iconst 0, 1) := by decide +kernel
theorem dd_M_ask_31 : decode c_M_ask 31 = .ok (.istore_n 3, 1) := by decide +kernel
theorem dd_M_ask_32 : decode c_M_ask 32 = .ok (.iconst 0, 1) := by decide +kernel
theorem dd_M_ask_33 : decode c_M_ask 33 = .ok (.istore 4, 2) := by decide +kernel
theorem dd_M_ask_35 : decode c_M_ask 35 = .ok (.iload 4, 2) := by decide +kernel
theorem dd_M_ask_37 : decode c_M_ask 37 = .ok (.aload_n 0, 1) := by decide +kernel
theorem dd_M_ask_38 : decode c_M_ask 38 = .ok (.getfield 242, 3) := by decide +kernel
theorem dd_M_ask_41 : decode c_M_ask 41 = .ok (.if_icmp .ge 88, 3) := by decide +kernel
theorem dd_M_ask_44 : decode c_M_ask 44 = .ok (.iconst 0, 1) := by decide +kernel
theorem dd_M_ask_45 : decode c_M_ask 45 = .ok (.istore 5, 2) := by decide +kernel
theorem dd_M_ask_47 : decode c_M_ask 47 = .ok (.iconst 0, 1) := by decide +kernel
theorem dd_M_ask_48 : decode c_M_ask 48 = .ok (.istore 6, 2) := by decide +kernel
theorem dd_M_ask_50 : decode c_M_ask 50 = .ok (.iload 6, 2) := by decide +kernel
theorem dd_M_ask_52 : decode c_M_ask 52 = .ok (.aload_n 0, 1) := by decide +kernel
theorem dd_M_ask_53 : decode c_M_ask 53 = .ok (.getfield 245, 3) := by decide +kernel
theorem dd_M_ask_56 : decode c_M_ask 56 = .ok (.if_icmp .ge 44, 3) := by decide +kernel
theorem dd_M_ask_59 : decode c_M_ask 59 = .ok (.iload 5, 2) := by decide +kernel
theorem dd_M_ask_61 : decode c_M_ask 61 = .ok (.aload_n 0, 1) := by decide +kernel
theorem dd_M_ask_62 : decode c_M_ask 62 = .ok (.iload 6, 2) := by decide +kernel
theorem dd_M_ask_64 : decode c_M_ask 64 = .ok (.invokevirtual 377, 3) := by decide +kernel
theorem dd_M_ask_67 : decode c_M_ask 67 = .ok (.ifCond .ne 7, 3) := by decide +kernel
theorem dd_M_ask_70 : decode c_M_ask 70 = .ok (.iconst 0, 1) := by decide +kernel
theorem dd_M_ask_71 : decode c_M_ask 71 = .ok (.goto 20, 3) := by decide +kernel
theorem dd_M_ask_74 : decode c_M_ask 74 = .ok (.aload_n 0, 1) := by decide +kernel
theorem dd_M_ask_75 : decode c_M_ask 75 = .ok (.iload 4, 2) := by decide +kernel
theorem dd_M_ask_77 : decode c_M_ask 77 = .ok (.iload 6, 2) := by decide +kernel
theorem dd_M_ask_79 : decode c_M_ask 79 = .ok (.invokevirtual 374, 3) := by decide +kernel
theorem dd_M_ask_82 : decode c_M_ask 82 = .ok (.iload_n 1, 1) := by decide +kernel
theorem dd_M_ask_83 : decode c_M_ask 83 = .ok (.if_icmp .lt 7, 3) := by decide +kernel
theorem dd_M_ask_86 : decode c_M_ask 86 = .ok (.iconst 1, 1) := by decide +kernel
theorem dd_M_ask_87 : decode c_M_ask 87 = .ok (.goto 4, 3) := by decide +kernel
theorem dd_M_ask_90 : decode c_M_ask 90 = .ok (.iconst (-1), 1) := by decide +kernel
theorem dd_M_ask_91 : decode c_M_ask 91 = .ok (.iadd, 1) := by decide +kernel
theorem dd_M_ask_92 : decode c_M_ask 92 = .ok (.istore 5, 2) := by decide +kernel
theorem dd_M_ask_94 : decode c_M_ask 94 = .ok (.iinc 6 1, 3) := by decide +kernel
theorem dd_M_ask_97 : decode c_M_ask 97 = .ok (.goto (-47), 3) := by decide +kernel
theorem dd_M_ask_100 : decode c_M_ask 100 = .ok (.iload_n 2, 1) := by decide +kernel
theorem dd_M_ask_101 : decode c_M_ask 101 = .ok (.iconst (-1), 1) := by decide +kernel
theorem dd_M_ask_102 : decode c_M_ask 102 = .ok (.if_icmp .eq 12, 3) := by decide +kernel
theorem dd_M_ask_105 : decode c_M_ask 105 = .ok (.iload 5, 2) := by decide +kernel
theorem dd_M_ask_107 : decode c_M_ask 107 = .ok (.invokestatic 287, 3) := by decide +kernel
theorem dd_M_ask_110 : decode c_M_ask 110 = .ok (.iload_n 3, 1) := by decide +kernel
theorem dd_M_ask_111 : decode c_M_ask 111 = .ok (.if_icmp .ge 12, 3) := by decide +kernel
theorem dd_M_ask_114 : decode c_M_ask 114 = .ok (.iload 4, 2) := by decide +kernel
theorem dd_M_ask_116 : decode c_M_ask 116 = .ok (.istore_n 2, 1) := by decide +kernel
theorem dd_M_ask_117 : decode c_M_ask 117 = .ok (.iload 5, 2) := by decide +kernel
theorem dd_M_ask_119 : decode c_M_ask 119 = .ok (.invokestatic 287, 3) := by decide +kernel
theorem dd_M_ask_122 : decode c_M_ask 122 = .ok (.istore_n 3, 1) := by decide +kernel
theorem dd_M_ask_123 : decode c_M_ask 123 = .ok (.iinc 4 1, 3) := by decide +kernel
theorem dd_M_ask_126 : decode c_M_ask 126 = .ok (.goto (-91), 3) := by decide +kernel
theorem dd_M_ask_129 : decode c_M_ask 129 = .ok (.iload_n 2, 1) := by decide +kernel
theorem dd_M_ask_130 : decode c_M_ask 130 = .ok (.ireturn, 1) := by decide +kernel
theorem dd_Duel_standIn_0 : decode c_Duel_standIn 0 = .ok (.iconst 0, 1) := by decide +kernel
theorem dd_Duel_standIn_1 : decode c_Duel_standIn 1 = .ok (.istore_n 2, 1) := by decide +kernel
theorem dd_Duel_standIn_2 : decode c_Duel_standIn 2 = .ok (.iload_n 2, 1) := by decide +kernel
theorem dd_Duel_standIn_3 : decode c_Duel_standIn 3 = .ok (.bipush 6, 2) := by decide +kernel
theorem dd_Duel_standIn_5 : decode c_Duel_standIn 5 = .ok (.if_icmp .ge 64, 3) := by decide +kernel
theorem dd_Duel_standIn_8 : decode c_Duel_standIn 8 = .ok (.aload_n 0, 1) := by decide +kernel
theorem dd_Duel_standIn_9 : decode c_Duel_standIn 9 = .ok (.getfield 18, 3) := by decide +kernel
theorem dd_Duel_standIn_12 : decode c_Duel_standIn 12 = .ok (.iload_n 2, 1) := by decide +kernel
theorem dd_Duel_standIn_13 : decode c_Duel_standIn 13 = .ok (.invokevirtual 26, 3) := by decide +kernel
theorem dd_Duel_standIn_16 : decode c_Duel_standIn 16 = .ok (.istore_n 3, 1) := by decide +kernel
theorem dd_Duel_standIn_17 : decode c_Duel_standIn 17 = .ok (.aload_n 0, 1) := by decide +kernel
theorem dd_Duel_standIn_18 : decode c_Duel_standIn 18 = .ok (.getfield 9, 3) := by decide +kernel
theorem dd_Duel_standIn_21 : decode c_Duel_standIn 21 = .ok (.iload_n 2, 1) := by decide +kernel
theorem dd_Duel_standIn_22 : decode c_Duel_standIn 22 = .ok (.iload_n 3, 1) := by decide +kernel
theorem dd_Duel_standIn_23 : decode c_Duel_standIn 23 = .ok (.ifCond .eq 15, 3) := by decide +kernel
theorem dd_Duel_standIn_26 : decode c_Duel_standIn 26 = .ok (.aload_n 0, 1) := by decide +kernel
theorem dd_Duel_standIn_27 : decode c_Duel_standIn 27 = .ok (.getfield 22, 3) := by decide +kernel
theorem dd_Duel_standIn_30 : decode c_Duel_standIn 30 = .ok (.iload_n 1, 1) := by decide +kernel
theorem dd_Duel_standIn_31 : decode c_Duel_standIn 31 = .ok (.iload_n 2, 1) := by decide +kernel
theorem dd_Duel_standIn_32 : decode c_Duel_standIn 32 = .ok (.invokevirtual 32, 3) := by decide +kernel
theorem dd_Duel_standIn_35 : decode c_Duel_standIn 35 = .ok (.goto 4, 3) := by decide +kernel
theorem dd_Duel_standIn_38 : decode c_Duel_standIn 38 = .ok (.iconst 0, 1) := by decide +kernel
theorem dd_Duel_standIn_39 : decode c_Duel_standIn 39 = .ok (.iastore, 1) := by decide +kernel
theorem dd_Duel_standIn_40 : decode c_Duel_standIn 40 = .ok (.aload_n 0, 1) := by decide +kernel
theorem dd_Duel_standIn_41 : decode c_Duel_standIn 41 = .ok (.getfield 15, 3) := by decide +kernel
theorem dd_Duel_standIn_44 : decode c_Duel_standIn 44 = .ok (.iload_n 2, 1) := by decide +kernel
theorem dd_Duel_standIn_45 : decode c_Duel_standIn 45 = .ok (.iload_n 3, 1) := by decide +kernel
theorem dd_Duel_standIn_46 : decode c_Duel_standIn 46 = .ok (.ifCond .eq 15, 3) := by decide +kernel
theorem dd_Duel_standIn_49 : decode c_Duel_standIn 49 = .ok (.aload_n 0, 1) := by decide +kernel
theorem dd_Duel_standIn_50 : decode c_Duel_standIn 50 = .ok (.getfield 22, 3) := by decide +kernel
theorem dd_Duel_standIn_53 : decode c_Duel_standIn 53 = .ok (.iload_n 1, 1) := by decide +kernel
theorem dd_Duel_standIn_54 : decode c_Duel_standIn 54 = .ok (.iload_n 2, 1) := by decide +kernel
theorem dd_Duel_standIn_55 : decode c_Duel_standIn 55 = .ok (.invokevirtual 37, 3) := by decide +kernel
theorem dd_Duel_standIn_58 : decode c_Duel_standIn 58 = .ok (.goto 4, 3) := by decide +kernel
theorem dd_Duel_standIn_61 : decode c_Duel_standIn 61 = .ok (.iconst 0, 1) := by decide +kernel
theorem dd_Duel_standIn_62 : decode c_Duel_standIn 62 = .ok (.iastore, 1) := by decide +kernel
theorem dd_Duel_standIn_63 : decode c_Duel_standIn 63 = .ok (.iinc 2 1, 3) := by decide +kernel
theorem dd_Duel_standIn_66 : decode c_Duel_standIn 66 = .ok (.goto (-64), 3) := by decide +kernel
theorem dd_Duel_standIn_69 : decode c_Duel_standIn 69 = .ok (.return_, 1) := by decide +kernel
theorem dd_Duel_secondStay_0 : decode c_Duel_secondStay 0 = .ok (.iload_n 1, 1) := by decide +kernel
theorem dd_Duel_secondStay_1 : decode c_Duel_secondStay 1 = .ok (.iload_n 2, 1) := by decide +kernel
theorem dd_Duel_secondStay_2 : decode c_Duel_secondStay 2 = .ok (.if_icmp .ne 12, 3) := by decide +kernel
theorem dd_Duel_secondStay_5 : decode c_Duel_secondStay 5 = .ok (.aload_n 0, 1) := by decide +kernel
theorem dd_Duel_secondStay_6 : decode c_Duel_secondStay 6 = .ok (.getfield 15, 3) := by decide +kernel
theorem dd_Duel_secondStay_9 : decode c_Duel_secondStay 9 = .ok (.iload_n 2, 1) := by decide +kernel
theorem dd_Duel_secondStay_10 : decode c_Duel_secondStay 10 = .ok (.iaload, 1) := by decide +kernel
theorem dd_Duel_secondStay_11 : decode c_Duel_secondStay 11 = .ok (.goto 9, 3) := by decide +kernel
theorem dd_Duel_secondStay_14 : decode c_Duel_secondStay 14 = .ok (.aload_n 0, 1) := by decide +kernel
theorem dd_Duel_secondStay_15 : decode c_Duel_secondStay 15 = .ok (.getfield 9, 3) := by decide +kernel
theorem dd_Duel_secondStay_18 : decode c_Duel_secondStay 18 = .ok (.iload_n 2, 1) := by decide +kernel
theorem dd_Duel_secondStay_19 : decode c_Duel_secondStay 19 = .ok (.iaload, 1) := by decide +kernel
theorem dd_Duel_secondStay_20 : decode c_Duel_secondStay 20 = .ok (.ireturn, 1) := by decide +kernel
theorem dd_Duel_has_0 : decode c_Duel_has 0 = .ok (.iload_n 3, 1) := by decide +kernel
theorem dd_Duel_has_1 : decode c_Duel_has 1 = .ok (.iload_n 2, 1) := by decide +kernel
theorem dd_Duel_has_2 : decode c_Duel_has 2 = .ok (.if_icmp .le 7, 3) := by decide +kernel
theorem dd_Duel_has_5 : decode c_Duel_has 5 = .ok (.iconst 3, 1) := by decide +kernel
theorem dd_Duel_has_6 : decode c_Duel_has 6 = .ok (.goto 4, 3) := by decide +kernel
theorem dd_Duel_has_9 : decode c_Duel_has 9 = .ok (.iconst 0, 1) := by decide +kernel
theorem dd_Duel_has_10 : decode c_Duel_has 10 = .ok (.istore 4, 2) := by decide +kernel
theorem dd_Duel_has_12 : decode c_Duel_has 12 = .ok (.iload_n 2, 1) := by decide +kernel
theorem dd_Duel_has_13 : decode c_Duel_has 13 = .ok (.iload 4, 2) := by decide +kernel
theorem dd_Duel_has_15 : decode c_Duel_has 15 = .ok (.isub, 1) := by decide +kernel
theorem dd_Duel_has_16 : decode c_Duel_has 16 = .ok (.aload_n 0, 1) := by decide +kernel
theorem dd_Duel_has_17 : decode c_Duel_has 17 = .ok (.getfield 18, 3) := by decide +kernel
theorem dd_Duel_has_20 : decode c_Duel_has 20 = .ok (.iload_n 1, 1) := by decide +kernel
theorem dd_Duel_has_21 : decode c_Duel_has 21 = .ok (.invokevirtual 26, 3) := by decide +kernel
theorem dd_Duel_has_24 : decode c_Duel_has 24 = .ok (.ifCond .eq 7, 3) := by decide +kernel
theorem dd_Duel_has_27 : decode c_Duel_has 27 = .ok (.iconst 0, 1) := by decide +kernel
theorem dd_Duel_has_28 : decode c_Duel_has 28 = .ok (.goto 4, 3) := by decide +kernel
theorem dd_Duel_has_31 : decode c_Duel_has 31 = .ok (.iconst 5, 1) := by decide +kernel
theorem dd_Duel_has_32 : decode c_Duel_has 32 = .ok (.isub, 1) := by decide +kernel
theorem dd_Duel_has_33 : decode c_Duel_has 33 = .ok (.ireturn, 1) := by decide +kernel
theorem dd_Duel_secondHas_0 : decode c_Duel_secondHas 0 = .ok (.aload_n 0, 1) := by decide +kernel
theorem dd_Duel_secondHas_1 : decode c_Duel_secondHas 1 = .ok (.iload_n 2, 1) := by decide +kernel
theorem dd_Duel_secondHas_2 : decode c_Duel_secondHas 2 = .ok (.aload_n 0, 1) := by decide +kernel
theorem dd_Duel_secondHas_3 : decode c_Duel_secondHas 3 = .ok (.iload_n 1, 1) := by decide +kernel
theorem dd_Duel_secondHas_4 : decode c_Duel_secondHas 4 = .ok (.iload_n 2, 1) := by decide +kernel
theorem dd_Duel_secondHas_5 : decode c_Duel_secondHas 5 = .ok (.invokevirtual 39, 3) := by decide +kernel
theorem dd_Duel_secondHas_8 : decode c_Duel_secondHas 8 = .ok (.aload_n 0, 1) := by decide +kernel
theorem dd_Duel_secondHas_9 : decode c_Duel_secondHas 9 = .ok (.getfield 9, 3) := by decide +kernel
theorem dd_Duel_secondHas_12 : decode c_Duel_secondHas 12 = .ok (.iload_n 1, 1) := by decide +kernel
theorem dd_Duel_secondHas_13 : decode c_Duel_secondHas 13 = .ok (.iaload, 1) := by decide +kernel
theorem dd_Duel_secondHas_14 : decode c_Duel_secondHas 14 = .ok (.invokevirtual 42, 3) := by decide +kernel
theorem dd_Duel_secondHas_17 : decode c_Duel_secondHas 17 = .ok (.ireturn, 1) := by decide +kernel
theorem dd_Duel_firstHas_0 : decode c_Duel_firstHas 0 = .ok (.aload_n 0, 1) := by decide +kernel
theorem dd_Duel_firstHas_1 : decode c_Duel_firstHas 1 = .ok (.iload_n 1, 1) := by decide +kernel
theorem dd_Duel_firstHas_2 : decode c_Duel_firstHas 2 = .ok (.aload_n 0, 1) := by decide +kernel
theorem dd_Duel_firstHas_3 : decode c_Duel_firstHas 3 = .ok (.getfield 9, 3) := by decide +kernel
theorem dd_Duel_firstHas_6 : decode c_Duel_firstHas 6 = .ok (.iload_n 1, 1) := by decide +kernel
theorem dd_Duel_firstHas_7 : decode c_Duel_firstHas 7 = .ok (.iaload, 1) := by decide +kernel
theorem dd_Duel_firstHas_8 : decode c_Duel_firstHas 8 = .ok (.aload_n 0, 1) := by decide +kernel
theorem dd_Duel_firstHas_9 : decode c_Duel_firstHas 9 = .ok (.iload_n 1, 1) := by decide +kernel
theorem dd_Duel_firstHas_10 : decode c_Duel_firstHas 10 = .ok (.iload_n 2, 1) := by decide +kernel
theorem dd_Duel_firstHas_11 : decode c_Duel_firstHas 11 = .ok (.invokevirtual 39, 3) := by decide +kernel
theorem dd_Duel_firstHas_14 : decode c_Duel_firstHas 14 = .ok (.invokevirtual 42, 3) := by decide +kernel
theorem dd_Duel_firstHas_17 : decode c_Duel_firstHas 17 = .ok (.ireturn, 1) := by decide +kernel
theorem dd_W_game_0 : decode c_W_game 0 = .ok (.aload_n 0, 1) := by decide +kernel
theorem dd_W_game_1 : decode c_W_game 1 = .ok (.getfield 42, 3) := by decide +kernel
theorem dd_W_game_4 : decode c_W_game 4 = .ok (.iload_n 1, 1) := by decide +kernel
theorem dd_W_game_5 : decode c_W_game 5 = .ok (.invokevirtual 150, 3) := by decide +kernel
theorem dd_W_game_8 : decode c_W_game 8 = .ok (.ifCond .eq 34, 3) := by decide +kernel
theorem dd_W_game_11 : decode c_W_game 11 = .ok (.iload_n 2, 1) := by decide +kernel
theorem dd_W_game_12 : decode c_W_game 12 = .ok (.ifCond .lt 30, 3) := by decide +kernel
theorem dd_W_game_15 : decode c_W_game 15 = .ok (.iload_n 2, 1) := by decide +kernel
theorem dd_W_game_16 : decode c_W_game 16 = .ok (.bipush 6, 2) := by decide +kernel
theorem dd_W_game_18 : decode c_W_game 18 = .ok (.if_icmp .ge 24, 3) := by decide +kernel
theorem dd_W_game_21 : decode c_W_game 21 = .ok (.iload_n 3, 1) := by decide +kernel
theorem dd_W_game_22 : decode c_W_game 22 = .ok (.ifCond .lt 20, 3) := by decide +kernel
theorem dd_W_game_25 : decode c_W_game 25 = .ok (.iload_n 3, 1) := by decide +kernel
theorem dd_W_game_26 : decode c_W_game 26 = .ok (.bipush 6, 2) := by decide +kernel
theorem dd_W_game_28 : decode c_W_game 28 = .ok (.if_icmp .ge 14, 3) := by decide +kernel
theorem dd_W_game_31 : decode c_W_game 31 = .ok (.iload 4, 2) := by decide +kernel
theorem dd_W_game_33 : decode c_W_game 33 = .ok (.ifCond .lt 9, 3) := by decide +kernel
theorem dd_W_game_36 : decode c_W_game 36 = .ok (.iload 4, 2) := by decide +kernel
theorem dd_W_game_38 : decode c_W_game 38 = .ok (.iconst 1, 1) := by decide +kernel
theorem dd_W_game_39 : decode c_W_game 39 = .ok (.if_icmp .le 7, 3) := by decide +kernel
theorem dd_W_game_42 : decode c_W_game 42 = .ok (.ldc_w 314, 3) := by decide +kernel
theorem dd_W_game_45 : decode c_W_game 45 = .ok (.ireturn, 1) := by decide +kernel
theorem dd_W_game_46 : decode c_W_game 46 = .ok (.aload_n 0, 1) := by decide +kernel
theorem dd_W_game_47 : decode c_W_game 47 = .ok (.getfield 90, 3) := by decide +kernel
theorem dd_W_game_50 : decode c_W_game 50 = .ok (.iload_n 1, 1) := by decide +kernel
theorem dd_W_game_51 : decode c_W_game 51 = .ok (.invokevirtual 315, 3) := by decide +kernel
theorem dd_W_game_54 : decode c_W_game 54 = .ok (.iload 4, 2) := by decide +kernel
theorem dd_W_game_56 : decode c_W_game 56 = .ok (.ifCond .ne 15, 3) := by decide +kernel
theorem dd_W_game_59 : decode c_W_game 59 = .ok (.aload_n 0, 1) := by decide +kernel
theorem dd_W_game_60 : decode c_W_game 60 = .ok (.getfield 90, 3) := by decide +kernel
theorem dd_W_game_63 : decode c_W_game 63 = .ok (.iload_n 2, 1) := by decide +kernel
theorem dd_W_game_64 : decode c_W_game 64 = .ok (.iload_n 3, 1) := by decide +kernel
theorem dd_W_game_65 : decode c_W_game 65 = .ok (.invokevirtual 318, 3) := by decide +kernel
theorem dd_W_game_68 : decode c_W_game 68 = .ok (.goto 12, 3) := by decide +kernel
theorem dd_W_game_71 : decode c_W_game 71 = .ok (.aload_n 0, 1) := by decide +kernel
theorem dd_W_game_72 : decode c_W_game 72 = .ok (.getfield 90, 3) := by decide +kernel
theorem dd_W_game_75 : decode c_W_game 75 = .ok (.iload_n 2, 1) := by decide +kernel
theorem dd_W_game_76 : decode c_W_game 76 = .ok (.iload_n 3, 1) := by decide +kernel
theorem dd_W_game_77 : decode c_W_game 77 = .ok (.invokevirtual 321, 3) := by decide +kernel
theorem dd_W_game_80 : decode c_W_game 80 = .ok (.ireturn, 1) := by decide +kernel
theorem dd_M_gameOf_0 : decode c_M_gameOf 0 = .ok (.aload_n 0, 1) := by decide +kernel
theorem dd_M_gameOf_1 : decode c_M_gameOf 1 = .ok (.iload_n 2, 1) := by decide +kernel
theorem dd_M_gameOf_2 : decode c_M_gameOf 2 = .ok (.invokevirtual 306, 3) := by decide +kernel
theorem dd_M_gameOf_5 : decode c_M_gameOf 5 = .ok (.ifCond .eq 12, 3) := by decide +kernel
theorem dd_M_gameOf_8 : decode c_M_gameOf 8 = .ok (.aload_n 0, 1) := by decide +kernel
theorem dd_M_gameOf_9 : decode c_M_gameOf 9 = .ok (.iload_n 1, 1) := by decide +kernel
theorem dd_M_gameOf_10 : decode c_M_gameOf 10 = .ok (.iload_n 2, 1) := by decide +kernel
theorem dd_M_gameOf_11 : decode c_M_gameOf 11 = .ok (.invokevirtual 284, 3) := by decide +kernel
theorem dd_M_gameOf_14 : decode c_M_gameOf 14 = .ok (.goto 4, 3) := by decide +kernel
theorem dd_M_gameOf_17 : decode c_M_gameOf 17 = .ok (.iconst 0, 1) := by decide +kernel
theorem dd_M_gameOf_18 : decode c_M_gameOf 18 = .ok (.istore 5, 2) := by decide +kernel
theorem dd_M_gameOf_20 : decode c_M_gameOf 20 = .ok (.aload_n 0, 1) := by decide +kernel
theorem dd_M_gameOf_21 : decode c_M_gameOf 21 = .ok (.iload_n 3, 1) := by decide +kernel
theorem dd_M_gameOf_22 : decode c_M_gameOf 22 = .ok (.invokevirtual 306, 3) := by decide +kernel
theorem dd_M_gameOf_25 : decode c_M_gameOf 25 = .ok (.ifCond .ne 7, 3) := by decide +kernel
theorem dd_M_gameOf_28 : decode c_M_gameOf 28 = .ok (.iconst 0, 1) := by decide +kernel
theorem dd_M_gameOf_29 : decode c_M_gameOf 29 = .ok (.goto 40, 3) := by decide +kernel
theorem dd_M_gameOf_32 : decode c_M_gameOf 32 = .ok (.aload_n 0, 1) := by decide +kernel
theorem dd_M_gameOf_33 : decode c_M_gameOf 33 = .ok (.iload_n 1, 1) := by decide +kernel
theorem dd_M_gameOf_34 : decode c_M_gameOf 34 = .ok (.iload_n 3, 1) := by decide +kernel
theorem dd_M_gameOf_35 : decode c_M_gameOf 35 = .ok (.aload_n 0, 1) := by decide +kernel
theorem dd_M_gameOf_36 : decode c_M_gameOf 36 = .ok (.getfield 58, 3) := by decide +kernel
theorem dd_M_gameOf_39 : decode c_M_gameOf 39 = .ok (.bipush 36, 2) := by decide +kernel
theorem dd_M_gameOf_41 : decode c_M_gameOf 41 = .ok (.iload_n 3, 1) := by decide +kernel
theorem dd_M_gameOf_42 : decode c_M_gameOf 42 = .ok (.iadd, 1) := by decide +kernel
theorem dd_M_gameOf_43 : decode c_M_gameOf 43 = .ok (.iaload, 1) := by decide +kernel
theorem dd_M_gameOf_44 : decode c_M_gameOf 44 = .ok (.bipush 99, 2) := by decide +kernel
theorem dd_M_gameOf_46 : decode c_M_gameOf 46 = .ok (.aload_n 0, 1) := by decide +kernel
theorem dd_M_gameOf_47 : decode c_M_gameOf 47 = .ok (.iload_n 1, 1) := by decide +kernel
theorem dd_M_gameOf_48 : decode c_M_gameOf 48 = .ok (.iload_n 3, 1) := by decide +kernel
theorem dd_M_gameOf_49 : decode c_M_gameOf 49 = .ok (.invokevirtual 277, 3) := by decide +kernel
theorem dd_M_gameOf_52 : decode c_M_gameOf 52 = .ok (.iload_n 2, 1) := by decide +kernel
theorem dd_M_gameOf_53 : decode c_M_gameOf 53 = .ok (.iload_n 3, 1) := by decide +kernel
theorem dd_M_gameOf_54 : decode c_M_gameOf 54 = .ok (.if_icmp .ne 7, 3) := by decide +kernel
theorem dd_M_gameOf_57 : decode c_M_gameOf 57 = .ok (.iconst 1, 1) := by decide +kernel
theorem dd_M_gameOf_58 : decode c_M_gameOf 58 = .ok (.goto 4, 3) := by decide +kernel
theorem dd_M_gameOf_61 : decode c_M_gameOf 61 = .ok (.iconst 0, 1) := by decide +kernel
theorem dd_M_gameOf_62 : decode c_M_gameOf 62 = .ok (.iadd, 1) := by decide +kernel
theorem dd_M_gameOf_63 : decode c_M_gameOf 63 = .ok (.invokestatic 273, 3) := by decide +kernel
theorem dd_M_gameOf_66 : decode c_M_gameOf 66 = .ok (.invokevirtual 280, 3) := by decide +kernel
theorem dd_M_gameOf_69 : decode c_M_gameOf 69 = .ok (.istore 6, 2) := by decide +kernel
theorem dd_M_gameOf_71 : decode c_M_gameOf 71 = .ok (.iload 4, 2) := by decide +kernel
theorem dd_M_gameOf_73 : decode c_M_gameOf 73 = .ok (.ifCond .ne 8, 3) := by decide +kernel
theorem dd_M_gameOf_76 : decode c_M_gameOf 76 = .ok (.iload 5, 2) := by decide +kernel
theorem dd_M_gameOf_78 : decode c_M_gameOf 78 = .ok (.goto 5, 3) := by decide +kernel
theorem dd_M_gameOf_81 : decode c_M_gameOf 81 = .ok (.iload 6, 2) := by decide +kernel
theorem dd_M_gameOf_83 : decode c_M_gameOf 83 = .ok (.istore 7, 2) := by decide +kernel
theorem dd_M_gameOf_85 : decode c_M_gameOf 85 = .ok (.iload 4, 2) := by decide +kernel
theorem dd_M_gameOf_87 : decode c_M_gameOf 87 = .ok (.ifCond .ne 8, 3) := by decide +kernel
theorem dd_M_gameOf_90 : decode c_M_gameOf 90 = .ok (.iload 6, 2) := by decide +kernel
theorem dd_M_gameOf_92 : decode c_M_gameOf 92 = .ok (.goto 5, 3) := by decide +kernel
theorem dd_M_gameOf_95 : decode c_M_gameOf 95 = .ok (.iload 5, 2) := by decide +kernel
theorem dd_M_gameOf_97 : decode c_M_gameOf 97 = .ok (.istore 8, 2) := by decide +kernel
theorem dd_M_gameOf_99 : decode c_M_gameOf 99 = .ok (.iload 7, 2) := by decide +kernel
theorem dd_M_gameOf_101 : decode c_M_gameOf 101 = .ok (.iload 8, 2) := by decide +kernel
theorem dd_M_gameOf_103 : decode c_M_gameOf 103 = .ok (.iload 7, 2) := by decide +kernel
theorem dd_M_gameOf_105 : decode c_M_gameOf 105 = .ok (.if_icmp .le 7, 3) := by decide +kernel
theorem dd_M_gameOf_108 : decode c_M_gameOf 108 = .ok (.iconst 3, 1) := by decide +kernel
theorem dd_M_gameOf_109 : decode c_M_gameOf 109 = .ok (.goto 4, 3) := by decide +kernel
theorem dd_M_gameOf_112 : decode c_M_gameOf 112 = .ok (.iconst 0, 1) := by decide +kernel
theorem dd_M_gameOf_113 : decode c_M_gameOf 113 = .ok (.isub, 1) := by decide +kernel
theorem dd_M_gameOf_114 : decode c_M_gameOf 114 = .ok (.aload_n 0, 1) := by decide +kernel
theorem dd_M_gameOf_115 : decode c_M_gameOf 115 = .ok (.iload 4, 2) := by decide +kernel
theorem dd_M_gameOf_117 : decode c_M_gameOf 117 = .ok (.ifCond .ne 7, 3) := by decide +kernel
theorem dd_M_gameOf_120 : decode c_M_gameOf 120 = .ok (.iload_n 2, 1) := by decide +kernel
theorem dd_M_gameOf_121 : decode c_M_gameOf 121 = .ok (.goto 4, 3) := by decide +kernel
theorem dd_M_gameOf_124 : decode c_M_gameOf 124 = .ok (.iload_n 3, 1) := by decide +kernel
theorem dd_M_gameOf_125 : decode c_M_gameOf 125 = .ok (.invokevirtual 306, 3) := by decide +kernel
theorem dd_M_gameOf_128 : decode c_M_gameOf 128 = .ok (.ifCond .eq 7, 3) := by decide +kernel
theorem dd_M_gameOf_131 : decode c_M_gameOf 131 = .ok (.iconst 0, 1) := by decide +kernel
theorem dd_M_gameOf_132 : decode c_M_gameOf 132 = .ok (.goto 4, 3) := by decide +kernel
theorem dd_M_gameOf_135 : decode c_M_gameOf 135 = .ok (.iconst 5, 1) := by decide +kernel
theorem dd_M_gameOf_136 : decode c_M_gameOf 136 = .ok (.isub, 1) := by decide +kernel
theorem dd_M_gameOf_137 : decode c_M_gameOf 137 = .ok (.ireturn, 1) := by decide +kernel
theorem dd_M_game_0 : decode c_M_game 0 = .ok (.aload_n 0, 1) := by decide +kernel
theorem dd_M_game_1 : decode c_M_game 1 = .ok (.iload_n 1, 1) := by decide +kernel
theorem dd_M_game_2 : decode c_M_game 2 = .ok (.invokevirtual 300, 3) := by decide +kernel
theorem dd_M_game_5 : decode c_M_game 5 = .ok (.ifCond .eq 31, 3) := by decide +kernel
theorem dd_M_game_8 : decode c_M_game 8 = .ok (.iload_n 2, 1) := by decide +kernel
theorem dd_M_game_9 : decode c_M_game 9 = .ok (.iconst 0, 1) := by decide +kernel
theorem dd_M_game_10 : decode c_M_game 10 = .ok (.iconst 5, 1) := by decide +kernel
theorem dd_M_game_11 : decode c_M_game 11 = .ok (.invokestatic 205, 3) := by decide +kernel
theorem dd_M_game_14 : decode c_M_game 14 = .ok (.ifCond .eq 22, 3) := by decide +kernel
theorem dd_M_game_17 : decode c_M_game 17 = .ok (.iload_n 3, 1) := by decide +kernel
theorem dd_M_game_18 : decode c_M_game 18 = .ok (.iconst 0, 1) := by decide +kernel
theorem dd_M_game_19 : decode c_M_game 19 = .ok (.iconst 5, 1) := by decide +kernel
theorem dd_M_game_20 : decode c_M_game 20 = .ok (.invokestatic 205, 3) := by decide +kernel
theorem dd_M_game_23 : decode c_M_game 23 = .ok (.ifCond .eq 13, 3) := by decide +kernel
theorem dd_M_game_26 : decode c_M_game 26 = .ok (.iload 4, 2) := by decide +kernel
theorem dd_M_game_28 : decode c_M_game 28 = .ok (.iconst 0, 1) := by decide +kernel
theorem dd_M_game_29 : decode c_M_game 29 = .ok (.iconst 1, 1) := by decide +kernel
theorem dd_M_game_30 : decode c_M_game 30 = .ok (.invokestatic 205, 3) := by decide +kernel
theorem dd_M_game_33 : decode c_M_game 33 = .ok (.ifCond .ne 7, 3) := by decide +kernel
theorem dd_M_game_36 : decode c_M_game 36 = .ok (.ldc_w 383, 3) := by decide +kernel
theorem dd_M_game_39 : decode c_M_game 39 = .ok (.ireturn, 1) := by decide +kernel
theorem dd_M_game_40 : decode c_M_game 40 = .ok (.aload_n 0, 1) := by decide +kernel
theorem dd_M_game_41 : decode c_M_game 41 = .ok (.iload_n 1, 1) := by decide +kernel
theorem dd_M_game_42 : decode c_M_game 42 = .ok (.iload_n 2, 1) := by decide +kernel
theorem dd_M_game_43 : decode c_M_game 43 = .ok (.iload_n 3, 1) := by decide +kernel
theorem dd_M_game_44 : decode c_M_game 44 = .ok (.iload 4, 2) := by decide +kernel
theorem dd_M_game_46 : decode c_M_game 46 = .ok (.invokevirtual 384, 3) := by decide +kernel
theorem dd_M_game_49 : decode c_M_game 49 = .ok (.ireturn, 1) := by decide +kernel
theorem dd_Duel_isQuiet_0 : decode c_Duel_isQuiet 0 = .ok (.aload_n 0, 1) := by decide +kernel
theorem dd_Duel_isQuiet_1 : decode c_Duel_isQuiet 1 = .ok (.iload_n 1, 1) := by decide +kernel
theorem dd_Duel_isQuiet_2 : decode c_Duel_isQuiet 2 = .ok (.iload_n 2, 1) := by decide +kernel
theorem dd_Duel_isQuiet_3 : decode c_Duel_isQuiet 3 = .ok (.invokevirtual 46, 3) := by decide +kernel
theorem dd_Duel_isQuiet_6 : decode c_Duel_isQuiet 6 = .ok (.istore_n 3, 1) := by decide +kernel
theorem dd_Duel_isQuiet_7 : decode c_Duel_isQuiet 7 = .ok (.aload_n 0, 1) := by decide +kernel
theorem dd_Duel_isQuiet_8 : decode c_Duel_isQuiet 8 = .ok (.iload_n 1, 1) := by decide +kernel
theorem dd_Duel_isQuiet_9 : decode c_Duel_isQuiet 9 = .ok (.iload_n 2, 1) := by decide +kernel
theorem dd_Duel_isQuiet_10 : decode c_Duel_isQuiet 10 = .ok (.invokevirtual 49, 3) := by decide +kernel
theorem dd_Duel_isQuiet_13 : decode c_Duel_isQuiet 13 = .ok (.istore 4, 2) := by decide +kernel
theorem dd_Duel_isQuiet_15 : decode c_Duel_isQuiet 15 = .ok (.iconst 0, 1) := by decide +kernel
theorem dd_Duel_isQuiet_16 : decode c_Duel_isQuiet 16 = .ok (.istore 5, 2) := by decide +kernel
theorem dd_Duel_isQuiet_18 : decode c_Duel_isQuiet 18 = .ok (.iload 5, 2) := by decide +kernel
theorem dd_Duel_isQuiet_20 : decode c_Duel_isQuiet 20 = .ok (.aload_n 0, 1) := by decide +kernel
theorem dd_Duel_isQuiet_21 : decode c_Duel_isQuiet 21 = .ok (.getfield 18, 3) := by decide +kernel
theorem dd_Duel_isQuiet_24 : decode c_Duel_isQuiet 24 = .ok (.getfield 52, 3) := by decide +kernel
theorem dd_Duel_isQuiet_27 : decode c_Duel_isQuiet 27 = .ok (.if_icmp .ge 34, 3) := by decide +kernel
theorem dd_Duel_isQuiet_30 : decode c_Duel_isQuiet 30 = .ok (.aload_n 0, 1) := by decide +kernel
theorem dd_Duel_isQuiet_31 : decode c_Duel_isQuiet 31 = .ok (.iload 5, 2) := by decide +kernel
theorem dd_Duel_isQuiet_33 : decode c_Duel_isQuiet 33 = .ok (.iload_n 2, 1) := by decide +kernel
theorem dd_Duel_isQuiet_34 : decode c_Duel_isQuiet 34 = .ok (.invokevirtual 46, 3) := by decide +kernel
theorem dd_Duel_isQuiet_37 : decode c_Duel_isQuiet 37 = .ok (.iload_n 3, 1) := by decide +kernel
theorem dd_Duel_isQuiet_38 : decode c_Duel_isQuiet 38 = .ok (.if_icmp .gt 15, 3) := by decide +kernel
theorem dd_Duel_isQuiet_41 : decode c_Duel_isQuiet 41 = .ok (.aload_n 0, 1) := by decide +kernel
theorem dd_Duel_isQuiet_42 : decode c_Duel_isQuiet 42 = .ok (.iload_n 1, 1) := by decide +kernel
theorem dd_Duel_isQuiet_43 : decode c_Duel_isQuiet 43 = .ok (.iload 5, 2) := by decide +kernel
theorem dd_Duel_isQuiet_45 : decode c_Duel_isQuiet 45 = .ok (.invokevirtual 49, 3) := by decide +kernel
theorem dd_Duel_isQuiet_48 : decode c_Duel_isQuiet 48 = .ok (.iload 4, 2) := by decide +kernel
theorem dd_Duel_isQuiet_50 : decode c_Duel_isQuiet 50 = .ok (.if_icmp .le 5, 3) := by decide +kernel
theorem dd_Duel_isQuiet_53 : decode c_Duel_isQuiet 53 = .ok (.iconst 0, 1) := by decide +kernel
theorem dd_Duel_isQuiet_54 : decode c_Duel_isQuiet 54 = .ok (.ireturn, 1) := by decide +kernel
theorem dd_Duel_isQuiet_55 : decode c_Duel_isQuiet 55 = .ok (.iinc 5 1, 3) := by decide +kernel
theorem dd_Duel_isQuiet_58 : decode c_Duel_isQuiet 58 = .ok (.goto (-40), 3) := by decide +kernel
theorem dd_Duel_isQuiet_61 : decode c_Duel_isQuiet 61 = .ok (.iconst 1, 1) := by decide +kernel
theorem dd_Duel_isQuiet_62 : decode c_Duel_isQuiet 62 = .ok (.ireturn, 1) := by decide +kernel
theorem dd_Duel_quietPair_0 : decode c_Duel_quietPair 0 = .ok (.iconst 0, 1) := by decide +kernel
theorem dd_Duel_quietPair_1 : decode c_Duel_quietPair 1 = .ok (.istore_n 2, 1) := by decide +kernel
theorem dd_Duel_quietPair_2 : decode c_Duel_quietPair 2 = .ok (.iconst 0, 1) := by decide +kernel
theorem dd_Duel_quietPair_3 : decode c_Duel_quietPair 3 = .ok (.istore_n 3, 1) := by decide +kernel
theorem dd_Duel_quietPair_4 : decode c_Duel_quietPair 4 = .ok (.iload_n 3, 1) := by decide +kernel
theorem dd_Duel_quietPair_5 : decode c_Duel_quietPair 5 = .ok (.aload_n 0, 1) := by decide +kernel
theorem dd_Duel_quietPair_6 : decode c_Duel_quietPair 6 = .ok (.getfield 18, 3) := by decide +kernel
theorem dd_Duel_quietPair_9 : decode c_Duel_quietPair 9 = .ok (.getfield 52, 3) := by decide +kernel
theorem dd_Duel_quietPair_12 : decode c_Duel_quietPair 12 = .ok (.if_icmp .ge 56, 3) := by decide +kernel
theorem dd_Duel_quietPair_15 : decode c_Duel_quietPair 15 = .ok (.iconst 0, 1) := by decide +kernel
theorem dd_Duel_quietPair_16 : decode c_Duel_quietPair 16 = .ok (.istore 4, 2) := by decide +kernel
theorem dd_Duel_quietPair_18 : decode c_Duel_quietPair 18 = .ok (.iload 4, 2) := by decide +kernel
theorem dd_Duel_quietPair_20 : decode c_Duel_quietPair 20 = .ok (.aload_n 0, 1) := by decide +kernel
theorem dd_Duel_quietPair_21 : decode c_Duel_quietPair 21 = .ok (.getfield 18, 3) := by decide +kernel
theorem dd_Duel_quietPair_24 : decode c_Duel_quietPair 24 = .ok (.getfield 52, 3) := by decide +kernel
theorem dd_Duel_quietPair_27 : decode c_Duel_quietPair 27 = .ok (.if_icmp .ge 35, 3) := by decide +kernel
theorem dd_Duel_quietPair_30 : decode c_Duel_quietPair 30 = .ok (.aload_n 0, 1) := by decide +kernel
theorem dd_Duel_quietPair_31 : decode c_Duel_quietPair 31 = .ok (.iload_n 3, 1) := by decide +kernel
theorem dd_Duel_quietPair_32 : decode c_Duel_quietPair 32 = .ok (.iload 4, 2) := by decide +kernel
theorem dd_Duel_quietPair_34 : decode c_Duel_quietPair 34 = .ok (.invokevirtual 56, 3) := by decide +kernel
theorem dd_Duel_quietPair_37 : decode c_Duel_quietPair 37 = .ok (.ifCond .eq 19, 3) := by decide +kernel
theorem dd_Duel_quietPair_40 : decode c_Duel_quietPair 40 = .ok (.iload_n 2, 1) := by decide +kernel
theorem dd_Duel_quietPair_41 : decode c_Duel_quietPair 41 = .ok (.iload_n 1, 1) := by decide +kernel
theorem dd_Duel_quietPair_42 : decode c_Duel_quietPair 42 = .ok (.if_icmp .ne 11, 3) := by decide +kernel
theorem dd_Duel_quietPair_45 : decode c_Duel_quietPair 45 = .ok (.bipush 10, 2) := by decide +kernel
theorem dd_Duel_quietPair_47 : decode c_Duel_quietPair 47 = .ok (.iload_n 3, 1) := by decide +kernel
theorem dd_Duel_quietPair_48 : decode c_Duel_quietPair 48 = .ok (.imul, 1) := by decide +kernel
theorem dd_Duel_quietPair_49 : decode c_Duel_quietPair 49 = .ok (.iload 4, 2) := by decide +kernel
theorem dd_Duel_quietPair_51 : decode c_Duel_quietPair 51 = .ok (.iadd, 1) := by decide +kernel
theorem dd_Duel_quietPair_52 : decode c_Duel_quietPair 52 = .ok (.ireturn, 1) := by decide +kernel
theorem dd_Duel_quietPair_53 : decode c_Duel_quietPair 53 = .ok (.iinc 2 1, 3) := by decide +kernel
theorem dd_Duel_quietPair_56 : decode c_Duel_quietPair 56 = .ok (.iinc 4 1, 3) := by decide +kernel
theorem dd_Duel_quietPair_59 : decode c_Duel_quietPair 59 = .ok (.goto (-41), 3) := by decide +kernel
theorem dd_Duel_quietPair_62 : decode c_Duel_quietPair 62 = .ok (.iinc 3 1, 3) := by decide +kernel
theorem dd_Duel_quietPair_65 : decode c_Duel_quietPair 65 = .ok (.goto (-61), 3) := by decide +kernel
theorem dd_Duel_quietPair_68 : decode c_Duel_quietPair 68 = .ok (.iload_n 1, 1) := by decide +kernel
theorem dd_Duel_quietPair_69 : decode c_Duel_quietPair 69 = .ok (.iconst (-1), 1) := by decide +kernel
theorem dd_Duel_quietPair_70 : decode c_Duel_quietPair 70 = .ok (.if_icmp .ne 7, 3) := by decide +kernel
theorem dd_Duel_quietPair_73 : decode c_Duel_quietPair 73 = .ok (.iload_n 2, 1) := by decide +kernel
theorem dd_Duel_quietPair_74 : decode c_Duel_quietPair 74 = .ok (.goto 4, 3) := by decide +kernel
theorem dd_Duel_quietPair_77 : decode c_Duel_quietPair 77 = .ok (.iconst (-1), 1) := by decide +kernel
theorem dd_Duel_quietPair_78 : decode c_Duel_quietPair 78 = .ok (.ireturn, 1) := by decide +kernel
theorem dd_W_rests_0 : decode c_W_rests 0 = .ok (.aload_n 0, 1) := by decide +kernel
theorem dd_W_rests_1 : decode c_W_rests 1 = .ok (.getfield 42, 3) := by decide +kernel
theorem dd_W_rests_4 : decode c_W_rests 4 = .ok (.iload_n 1, 1) := by decide +kernel
theorem dd_W_rests_5 : decode c_W_rests 5 = .ok (.invokevirtual 150, 3) := by decide +kernel
theorem dd_W_rests_8 : decode c_W_rests 8 = .ok (.ifCond .ne 5, 3) := by decide +kernel
theorem dd_W_rests_11 : decode c_W_rests 11 = .ok (.iconst (-1), 1) := by decide +kernel
theorem dd_W_rests_12 : decode c_W_rests 12 = .ok (.ireturn, 1) := by decide +kernel
theorem dd_W_rests_13 : decode c_W_rests 13 = .ok (.aload_n 0, 1) := by decide +kernel
theorem dd_W_rests_14 : decode c_W_rests 14 = .ok (.getfield 90, 3) := by decide +kernel
theorem dd_W_rests_17 : decode c_W_rests 17 = .ok (.iload_n 1, 1) := by decide +kernel
theorem dd_W_rests_18 : decode c_W_rests 18 = .ok (.invokevirtual 315, 3) := by decide +kernel
theorem dd_W_rests_21 : decode c_W_rests 21 = .ok (.aload_n 0, 1) := by decide +kernel
theorem dd_W_rests_22 : decode c_W_rests 22 = .ok (.getfield 90, 3) := by decide +kernel
theorem dd_W_rests_25 : decode c_W_rests 25 = .ok (.iload_n 2, 1) := by decide +kernel
theorem dd_W_rests_26 : decode c_W_rests 26 = .ok (.invokevirtual 324, 3) := by decide +kernel
theorem dd_W_rests_29 : decode c_W_rests 29 = .ok (.ireturn, 1) := by decide +kernel
theorem dd_M_isRest_0 : decode c_M_isRest 0 = .ok (.iconst 0, 1) := by decide +kernel
theorem dd_M_isRest_1 : decode c_M_isRest 1 = .ok (.istore 4, 2) := by decide +kernel
theorem dd_M_isRest_3 : decode c_M_isRest 3 = .ok (.iload 4, 2) := by decide +kernel
theorem dd_M_isRest_5 : decode c_M_isRest 5 = .ok (.aload_n 0, 1) := by decide +kernel
theorem dd_M_isRest_6 : decode c_M_isRest 6 = .ok (.getfield 245, 3) := by decide +kernel
theorem dd_M_isRest_9 : decode c_M_isRest 9 = .ok (.if_icmp .ge 51, 3) := by decide +kernel
theorem dd_M_isRest_12 : decode c_M_isRest 12 = .ok (.aload_n 0, 1) := by decide +kernel
theorem dd_M_isRest_13 : decode c_M_isRest 13 = .ok (.iload_n 1, 1) := by decide +kernel
theorem dd_M_isRest_14 : decode c_M_isRest 14 = .ok (.iload 4, 2) := by decide +kernel
theorem dd_M_isRest_16 : decode c_M_isRest 16 = .ok (.iload_n 3, 1) := by decide +kernel
theorem dd_M_isRest_17 : decode c_M_isRest 17 = .ok (.iconst 0, 1) := by decide +kernel
theorem dd_M_isRest_18 : decode c_M_isRest 18 = .ok (.invokevirtual 384, 3) := by decide +kernel
theorem dd_M_isRest_21 : decode c_M_isRest 21 = .ok (.aload_n 0, 1) := by decide +kernel
theorem dd_M_isRest_22 : decode c_M_isRest 22 = .ok (.iload_n 1, 1) := by decide +kernel
theorem dd_M_isRest_23 : decode c_M_isRest 23 = .ok (.iload_n 2, 1) := by decide +kernel
theorem dd_M_isRest_24 : decode c_M_isRest 24 = .ok (.iload_n 3, 1) := by decide +kernel
theorem dd_M_isRest_25 : decode c_M_isRest 25 = .ok (.iconst 0, 1) := by decide +kernel
theorem dd_M_isRest_26 : decode c_M_isRest 26 = .ok (.invokevirtual 384, 3) := by decide +kernel
theorem dd_M_isRest_29 : decode c_M_isRest 29 = .ok (.if_icmp .gt 23, 3) := by decide +kernel
theorem dd_M_isRest_32 : decode c_M_isRest 32 = .ok (.aload_n 0, 1) := by decide +kernel
theorem dd_M_isRest_33 : decode c_M_isRest 33 = .ok (.iload_n 1, 1) := by decide +kernel
theorem dd_M_isRest_34 : decode c_M_isRest 34 = .ok (.iload_n 2, 1) := by decide +kernel
theorem dd_M_isRest_35 : decode c_M_isRest 35 = .ok (.iload 4, 2) := by decide +kernel
theorem dd_M_isRest_37 : decode c_M_isRest 37 = .ok (.iconst 1, 1) := by decide +kernel
theorem dd_M_isRest_38 : decode c_M_isRest 38 = .ok (.invokevirtual 384, 3) := by decide +kernel
theorem dd_M_isRest_41 : decode c_M_isRest 41 = .ok (.aload_n 0, 1) := by decide +kernel
theorem dd_M_isRest_42 : decode c_M_isRest 42 = .ok (.iload_n 1, 1) := by decide +kernel
theorem dd_M_isRest_43 : decode c_M_isRest 43 = .ok (.iload_n 2, 1) := by decide +kernel
theorem dd_M_isRest_44 : decode c_M_isRest 44 = .ok (.iload_n 3, 1) := by decide +kernel
theorem dd_M_isRest_45 : decode c_M_isRest 45 = .ok (.iconst 1, 1) := by decide +kernel
theorem dd_M_isRest_46 : decode c_M_isRest 46 = .ok (.invokevirtual 384, 3) := by decide +kernel
theorem dd_M_isRest_49 : decode c_M_isRest 49 = .ok (.if_icmp .le 5, 3) := by decide +kernel
theorem dd_M_isRest_52 : decode c_M_isRest 52 = .ok (.iconst 0, 1) := by decide +kernel
theorem dd_M_isRest_53 : decode c_M_isRest 53 = .ok (.ireturn, 1) := by decide +kernel
theorem dd_M_isRest_54 : decode c_M_isRest 54 = .ok (.iinc 4 1, 3) := by decide +kernel
theorem dd_M_isRest_57 : decode c_M_isRest 57 = .ok (.goto (-54), 3) := by decide +kernel
theorem dd_M_isRest_60 : decode c_M_isRest 60 = .ok (.iconst 1, 1) := by decide +kernel
theorem dd_M_isRest_61 : decode c_M_isRest 61 = .ok (.ireturn, 1) := by decide +kernel
theorem dd_M_rests_0 : decode c_M_rests 0 = .ok (.aload_n 0, 1) := by decide +kernel
theorem dd_M_rests_1 : decode c_M_rests 1 = .ok (.iload_n 1, 1) := by decide +kernel
theorem dd_M_rests_2 : decode c_M_rests 2 = .ok (.invokevirtual 300, 3) := by decide +kernel
theorem dd_M_rests_5 : decode c_M_rests 5 = .ok (.ifCond .eq 8, 3) := by decide +kernel
theorem dd_M_rests_8 : decode c_M_rests 8 = .ok (.iload_n 2, 1) := by decide +kernel
theorem dd_M_rests_9 : decode c_M_rests 9 = .ok (.iconst (-1), 1) := by decide +kernel
theorem dd_M_rests_10 : decode c_M_rests 10 = .ok (.if_icmp .ge 5, 3) := by decide +kernel
theorem dd_M_rests_13 : decode c_M_rests 13 = .ok (.iconst (-1), 1) := by decide +kernel
theorem dd_M_rests_14 : decode c_M_rests 14 = .ok (.ireturn, 1) := by decide +kernel
theorem dd_M_rests_15 : decode c_M_rests 15 = .ok (.iconst 0, 1) := by decide +kernel
theorem dd_M_rests_16 : decode c_M_rests 16 = .ok (.istore_n 3, 1) := by decide +kernel
theorem dd_M_rests_17 : decode c_M_rests 17 = .ok (.iconst 0, 1) := by decide +kernel
theorem dd_M_rests_18 : decode c_M_rests 18 = .ok (.istore 4, 2) := by decide +kernel
theorem dd_M_rests_20 : decode c_M_rests 20 = .ok (.iload 4, 2) := by decide +kernel
theorem dd_M_rests_22 : decode c_M_rests 22 = .ok (.aload_n 0, 1) := by decide +kernel
theorem dd_M_rests_23 : decode c_M_rests 23 = .ok (.getfield 245, 3) := by decide +kernel
theorem dd_M_rests_26 : decode c_M_rests 26 = .ok (.if_icmp .ge 56, 3) := by decide +kernel
theorem dd_M_rests_29 : decode c_M_rests 29 = .ok (.iconst 0, 1) := by decide +kernel
theorem dd_M_rests_30 : decode c_M_rests 30 = .ok (.istore 5, 2) := by decide +kernel
theorem dd_M_rests_32 : decode c_M_rests 32 = .ok (.iload 5, 2) := by decide +kernel
theorem dd_M_rests_34 : decode c_M_rests 34 = .ok (.aload_n 0, 1) := by decide +kernel
theorem dd_M_rests_35 : decode c_M_rests 35 = .ok (.getfield 245, 3) := by decide +kernel
theorem dd_M_rests_38 : decode c_M_rests 38 = .ok (.if_icmp .ge 38, 3) := by decide +kernel
theorem dd_M_rests_41 : decode c_M_rests 41 = .ok (.aload_n 0, 1) := by decide +kernel
theorem dd_M_rests_42 : decode c_M_rests 42 = .ok (.iload_n 1, 1) := by decide +kernel
theorem dd_M_rests_43 : decode c_M_rests 43 = .ok (.iload 4, 2) := by decide +kernel
theorem dd_M_rests_45 : decode c_M_rests 45 = .ok (.iload 5, 2) := by decide +kernel
theorem dd_M_rests_47 : decode c_M_rests 47 = .ok (.invokevirtual 387, 3) := by decide +kernel
theorem dd_M_rests_50 : decode c_M_rests 50 = .ok (.ifCond .eq 20, 3) := by decide +kernel
theorem dd_M_rests_53 : decode c_M_rests 53 = .ok (.iload_n 3, 1) := by decide +kernel
theorem dd_M_rests_54 : decode c_M_rests 54 = .ok (.iload_n 2, 1) := by decide +kernel
theorem dd_M_rests_55 : decode c_M_rests 55 = .ok (.if_icmp .ne 12, 3) := by decide +kernel
theorem dd_M_rests_58 : decode c_M_rests 58 = .ok (.bipush 10, 2) := by decide +kernel
theorem dd_M_rests_60 : decode c_M_rests 60 = .ok (.iload 4, 2) := by decide +kernel
theorem dd_M_rests_62 : decode c_M_rests 62 = .ok (.imul, 1) := by decide +kernel
theorem dd_M_rests_63 : decode c_M_rests 63 = .ok (.iload 5, 2) := by decide +kernel
theorem dd_M_rests_65 : decode c_M_rests 65 = .ok (.iadd, 1) := by decide +kernel
theorem dd_M_rests_66 : decode c_M_rests 66 = .ok (.ireturn, 1) := by decide +kernel
theorem dd_M_rests_67 : decode c_M_rests 67 = .ok (.iinc 3 1, 3) := by decide +kernel
theorem dd_M_rests_70 : decode c_M_rests 70 = .ok (.iinc 5 1, 3) := by decide +kernel
theorem dd_M_rests_73 : decode c_M_rests 73 = .ok (.goto (-41), 3) := by decide +kernel
theorem dd_M_rests_76 : decode c_M_rests 76 = .ok (.iinc 4 1, 3) := by decide +kernel
theorem dd_M_rests_79 : decode c_M_rests 79 = .ok (.goto (-59), 3) := by decide +kernel
theorem dd_M_rests_82 : decode c_M_rests 82 = .ok (.iload_n 2, 1) := by decide +kernel
theorem dd_M_rests_83 : decode c_M_rests 83 = .ok (.iconst (-1), 1) := by decide +kernel
theorem dd_M_rests_84 : decode c_M_rests 84 = .ok (.if_icmp .ne 7, 3) := by decide +kernel
theorem dd_M_rests_87 : decode c_M_rests 87 = .ok (.iload_n 3, 1) := by decide +kernel
theorem dd_M_rests_88 : decode c_M_rests 88 = .ok (.goto 4, 3) := by decide +kernel
theorem dd_M_rests_91 : decode c_M_rests 91 = .ok (.iconst (-1), 1) := by decide +kernel
theorem dd_M_rests_92 : decode c_M_rests 92 = .ok (.ireturn, 1) := by decide +kernel
theorem dd_W_odds_0 : decode c_W_odds 0 = .ok (.aload_n 0, 1) := by decide +kernel
theorem dd_W_odds_1 : decode c_W_odds 1 = .ok (.getfield 42, 3) := by decide +kernel
theorem dd_W_odds_4 : decode c_W_odds 4 = .ok (.iload_n 1, 1) := by decide +kernel
theorem dd_W_odds_5 : decode c_W_odds 5 = .ok (.iload_n 2, 1) := by decide +kernel
theorem dd_W_odds_6 : decode c_W_odds 6 = .ok (.invokevirtual 181, 3) := by decide +kernel
theorem dd_W_odds_9 : decode c_W_odds 9 = .ok (.ifCond .eq 25, 3) := by decide +kernel
theorem dd_W_odds_12 : decode c_W_odds 12 = .ok (.iload_n 3, 1) := by decide +kernel
theorem dd_W_odds_13 : decode c_W_odds 13 = .ok (.ifCond .lt 21, 3) := by decide +kernel
theorem dd_W_odds_16 : decode c_W_odds 16 = .ok (.iload_n 3, 1) := by decide +kernel
theorem dd_W_odds_17 : decode c_W_odds 17 = .ok (.bipush 100, 2) := by decide +kernel
theorem dd_W_odds_19 : decode c_W_odds 19 = .ok (.if_icmp .gt 15, 3) := by decide +kernel
theorem dd_W_odds_22 : decode c_W_odds 22 = .ok (.iload 4, 2) := by decide +kernel
theorem dd_W_odds_24 : decode c_W_odds 24 = .ok (.ifCond .lt 10, 3) := by decide +kernel
theorem dd_W_odds_27 : decode c_W_odds 27 = .ok (.iload 4, 2) := by decide +kernel
theorem dd_W_odds_29 : decode c_W_odds 29 = .ok (.bipush 20, 2) := by decide +kernel
theorem dd_W_odds_31 : decode c_W_odds 31 = .ok (.if_icmp .le 5, 3) := by decide +kernel
theorem dd_W_odds_34 : decode c_W_odds 34 = .ok (.iconst (-1), 1) := by decide +kernel
theorem dd_W_odds_35 : decode c_W_odds 35 = .ok (.ireturn, 1) := by decide +kernel
theorem dd_W_odds_36 : decode c_W_odds 36 = .ok (.iload 4, 2) := by decide +kernel
theorem dd_W_odds_38 : decode c_W_odds 38 = .ok (.aload_n 0, 1) := by decide +kernel
theorem dd_W_odds_39 : decode c_W_odds 39 = .ok (.getfield 65, 3) := by decide +kernel
theorem dd_W_odds_42 : decode c_W_odds 42 = .ok (.iload_n 1, 1) := by decide +kernel
theorem dd_W_odds_43 : decode c_W_odds 43 = .ok (.iload_n 2, 1) := by decide +kernel
theorem dd_W_odds_44 : decode c_W_odds 44 = .ok (.invokevirtual 188, 3) := by decide +kernel
theorem dd_W_odds_47 : decode c_W_odds 47 = .ok (.if_icmp .le 5, 3) := by decide +kernel
theorem dd_W_odds_50 : decode c_W_odds 50 = .ok (.iconst 0, 1) := by decide +kernel
theorem dd_W_odds_51 : decode c_W_odds 51 = .ok (.ireturn, 1) := by decide +kernel
theorem dd_W_odds_52 : decode c_W_odds 52 = .ok (.ldc2_w 327, 3) := by decide +kernel
theorem dd_W_odds_55 : decode c_W_odds 55 = .ok (.lstore 5, 2) := by decide +kernel
theorem dd_W_odds_57 : decode c_W_odds 57 = .ok (.iconst 2, 1) := by decide +kernel
theorem dd_W_odds_58 : decode c_W_odds 58 = .ok (.istore 7, 2) := by decide +kernel
theorem dd_W_odds_60 : decode c_W_odds 60 = .ok (.iload 7, 2) := by decide +kernel
theorem dd_W_odds_62 : decode c_W_odds 62 = .ok (.iload 4, 2) := by decide +kernel
theorem dd_W_odds_64 : decode c_W_odds 64 = .ok (.if_icmp .gt 23, 3) := by decide +kernel
theorem dd_W_odds_67 : decode c_W_odds 67 = .ok (.lload 5, 2) := by decide +kernel
theorem dd_W_odds_69 : decode c_W_odds 69 = .ok (.lload 5, 2) := by decide +kernel
theorem dd_W_odds_71 : decode c_W_odds 71 = .ok (.iload_n 3, 1) := by decide +kernel
theorem dd_W_odds_72 : decode c_W_odds 72 = .ok (.i2l, 1) := by decide +kernel
theorem dd_W_odds_73 : decode c_W_odds 73 = .ok (.lmul, 1) := by decide +kernel
theorem dd_W_odds_74 : decode c_W_odds 74 = .ok (.ldc2_w 329, 3) := by decide +kernel
theorem dd_W_odds_77 : decode c_W_odds 77 = .ok (.ldiv, 1) := by decide +kernel
theorem dd_W_odds_78 : decode c_W_odds 78 = .ok (.lsub, 1) := by decide +kernel
theorem dd_W_odds_79 : decode c_W_odds 79 = .ok (.lstore 5, 2) := by decide +kernel
theorem dd_W_odds_81 : decode c_W_odds 81 = .ok (.iinc 7 1, 3) := by decide +kernel
theorem dd_W_odds_84 : decode c_W_odds 84 = .ok (.goto (-24), 3) := by decide +kernel
theorem dd_W_odds_87 : decode c_W_odds 87 = .ok (.lload 5, 2) := by decide +kernel
theorem dd_W_odds_89 : decode c_W_odds 89 = .ok (.l2i, 1) := by decide +kernel
theorem dd_W_odds_90 : decode c_W_odds 90 = .ok (.ireturn, 1) := by decide +kernel
theorem dd_M_odds_0 : decode c_M_odds 0 = .ok (.aload_n 0, 1) := by decide +kernel
theorem dd_M_odds_1 : decode c_M_odds 1 = .ok (.iload_n 1, 1) := by decide +kernel
theorem dd_M_odds_2 : decode c_M_odds 2 = .ok (.invokevirtual 300, 3) := by decide +kernel
theorem dd_M_odds_5 : decode c_M_odds 5 = .ok (.ifCond .eq 32, 3) := by decide +kernel
theorem dd_M_odds_8 : decode c_M_odds 8 = .ok (.aload_n 0, 1) := by decide +kernel
theorem dd_M_odds_9 : decode c_M_odds 9 = .ok (.iload_n 2, 1) := by decide +kernel
theorem dd_M_odds_10 : decode c_M_odds 10 = .ok (.invokevirtual 306, 3) := by decide +kernel
theorem dd_M_odds_13 : decode c_M_odds 13 = .ok (.ifCond .eq 24, 3) := by decide +kernel
theorem dd_M_odds_16 : decode c_M_odds 16 = .ok (.iload_n 3, 1) := by decide +kernel
theorem dd_M_odds_17 : decode c_M_odds 17 = .ok (.iconst 0, 1) := by decide +kernel
theorem dd_M_odds_18 : decode c_M_odds 18 = .ok (.bipush 100, 2) := by decide +kernel
theorem dd_M_odds_20 : decode c_M_odds 20 = .ok (.invokestatic 205, 3) := by decide +kernel
theorem dd_M_odds_23 : decode c_M_odds 23 = .ok (.ifCond .eq 14, 3) := by decide +kernel
theorem dd_M_odds_26 : decode c_M_odds 26 = .ok (.iload 4, 2) := by decide +kernel
theorem dd_M_odds_28 : decode c_M_odds 28 = .ok (.iconst 0, 1) := by decide +kernel
theorem dd_M_odds_29 : decode c_M_odds 29 = .ok (.bipush 20, 2) := by decide +kernel
theorem dd_M_odds_31 : decode c_M_odds 31 = .ok (.invokestatic 205, 3) := by decide +kernel
theorem dd_M_odds_34 : decode c_M_odds 34 = .ok (.ifCond .ne 5, 3) := by decide +kernel
theorem dd_M_odds_37 : decode c_M_odds 37 = .ok (.iconst (-1), 1) := by decide +kernel
theorem dd_M_odds_38 : decode c_M_odds 38 = .ok (.ireturn, 1) := by decide +kernel
theorem dd_M_odds_39 : decode c_M_odds 39 = .ok (.aload_n 0, 1) := by decide +kernel
theorem dd_M_odds_40 : decode c_M_odds 40 = .ok (.iload_n 1, 1) := by decide +kernel
theorem dd_M_odds_41 : decode c_M_odds 41 = .ok (.iload_n 2, 1) := by decide +kernel
theorem dd_M_odds_42 : decode c_M_odds 42 = .ok (.invokevirtual 284, 3) := by decide +kernel
theorem dd_M_odds_45 : decode c_M_odds 45 = .ok (.iload 4, 2) := by decide +kernel
theorem dd_M_odds_47 : decode c_M_odds 47 = .ok (.if_icmp .ge 5, 3) := by decide +kernel
theorem dd_M_odds_50 : decode c_M_odds 50 = .ok (.iconst 0, 1) := by decide +kernel
theorem dd_M_odds_51 : decode c_M_odds 51 = .ok (.ireturn, 1) := by decide +kernel
theorem dd_M_odds_52 : decode c_M_odds 52 = .ok (.ldc_w 390, 3) := by decide +kernel
theorem dd_M_odds_55 : decode c_M_odds 55 = .ok (.istore 5, 2) := by decide +kernel
theorem dd_M_odds_57 : decode c_M_odds 57 = .ok (.iconst 1, 1) := by decide +kernel
theorem dd_M_odds_58 : decode c_M_odds 58 = .ok (.istore 6, 2) := by decide +kernel
theorem dd_M_odds_60 : decode c_M_odds 60 = .ok (.iload 6, 2) := by decide +kernel
theorem dd_M_odds_62 : decode c_M_odds 62 = .ok (.iload 4, 2) := by decide +kernel
theorem dd_M_odds_64 : decode c_M_odds 64 = .ok (.if_icmp .ge 25, 3) := by decide +kernel
theorem dd_M_odds_67 : decode c_M_odds 67 = .ok (.iload 5, 2) := by decide +kernel
theorem dd_M_odds_69 : decode c_M_odds 69 = .ok (.iload 5, 2) := by decide +kernel
theorem dd_M_odds_71 : decode c_M_odds 71 = .ok (.i2l, 1) := by decide +kernel
theorem dd_M_odds_72 : decode c_M_odds 72 = .ok (.iload_n 3, 1) := by decide +kernel
theorem dd_M_odds_73 : decode c_M_odds 73 = .ok (.i2l, 1) := by decide +kernel
theorem dd_M_odds_74 : decode c_M_odds 74 = .ok (.lmul, 1) := by decide +kernel
theorem dd_M_odds_75 : decode c_M_odds 75 = .ok (.ldc2_w 391, 3) := by decide +kernel
theorem dd_M_odds_78 : decode c_M_odds 78 = .ok (.ldiv, 1) := by decide +kernel
theorem dd_M_odds_79 : decode c_M_odds 79 = .ok (.l2i, 1) := by decide +kernel
theorem dd_M_odds_80 : decode c_M_odds 80 = .ok (.isub, 1) := by decide +kernel
theorem dd_M_odds_81 : decode c_M_odds 81 = .ok (.istore 5, 2) := by decide +kernel
theorem dd_M_odds_83 : decode c_M_odds 83 = .ok (.iinc 6 1, 3) := by decide +kernel
theorem dd_M_odds_86 : decode c_M_odds 86 = .ok (.goto (-26), 3) := by decide +kernel
theorem dd_M_odds_89 : decode c_M_odds 89 = .ok (.iload 5, 2) := by decide +kernel
theorem dd_M_odds_91 : decode c_M_odds 91 = .ok (.ireturn, 1) := by decide +kernel
theorem dd_W_reach_0 : decode c_W_reach 0 = .ok (.aload_n 0, 1) := by decide +kernel
theorem dd_W_reach_1 : decode c_W_reach 1 = .ok (.getfield 42, 3) := by decide +kernel
theorem dd_W_reach_4 : decode c_W_reach 4 = .ok (.invokevirtual 235, 3) := by decide +kernel
theorem dd_W_reach_7 : decode c_W_reach 7 = .ok (.ifCond .ne 5, 3) := by decide +kernel
theorem dd_W_reach_10 : decode c_W_reach 10 = .ok (.iconst (-1), 1) := by decide +kernel
theorem dd_W_reach_11 : decode c_W_reach 11 = .ok (.ireturn, 1) := by decide +kernel
theorem dd_W_reach_12 : decode c_W_reach 12 = .ok (.iconst 0, 1) := by decide +kernel
theorem dd_W_reach_13 : decode c_W_reach 13 = .ok (.istore_n 1, 1) := by decide +kernel
theorem dd_W_reach_14 : decode c_W_reach 14 = .ok (.iconst 0, 1) := by decide +kernel
theorem dd_W_reach_15 : decode c_W_reach 15 = .ok (.istore_n 2, 1) := by decide +kernel
theorem dd_W_reach_16 : decode c_W_reach 16 = .ok (.iload_n 2, 1) := by decide +kernel
theorem dd_W_reach_17 : decode c_W_reach 17 = .ok (.aload_n 0, 1) := by decide +kernel
theorem dd_W_reach_18 : decode c_W_reach 18 = .ok (.getfield 42, 3) := by decide +kernel
theorem dd_W_reach_21 : decode c_W_reach 21 = .ok (.getfield 121, 3) := by decide +kernel
theorem dd_W_reach_24 : decode c_W_reach 24 = .ok (.if_icmp .ge 33, 3) := by decide +kernel
theorem dd_W_reach_27 : decode c_W_reach 27 = .ok (.aload_n 0, 1) := by decide +kernel
theorem dd_W_reach_28 : decode c_W_reach 28 = .ok (.getfield 49, 3) := by decide +kernel
theorem dd_W_reach_31 : decode c_W_reach 31 = .ok (.iload_n 2, 1) := by decide +kernel
theorem dd_W_reach_32 : decode c_W_reach 32 = .ok (.invokevirtual 215, 3) := by decide +kernel
theorem dd_W_reach_35 : decode c_W_reach 35 = .ok (.aload_n 0, 1) := by decide +kernel
theorem dd_W_reach_36 : decode c_W_reach 36 = .ok (.getfield 49, 3) := by decide +kernel
theorem dd_W_reach_39 : decode c_W_reach 39 = .ok (.getfield 218, 3) := by decide +kernel
theorem dd_W_reach_42 : decode c_W_reach 42 = .ok (.if_icmp .gt 9, 3) := by decide +kernel
theorem dd_W_reach_45 : decode c_W_reach 45 = .ok (.iload_n 1, 1) := by decide +kernel
theorem dd_W_reach_46 : decode c_W_reach 46 = .ok (.iconst 1, 1) := by decide +kernel
theorem dd_W_reach_47 : decode c_W_reach 47 = .ok (.iload_n 2, 1) := by decide +kernel
theorem dd_W_reach_48 : decode c_W_reach 48 = .ok (.ishl, 1) := by decide +kernel
theorem dd_W_reach_49 : decode c_W_reach 49 = .ok (.ior, 1) := by decide +kernel
theorem dd_W_reach_50 : decode c_W_reach 50 = .ok (.istore_n 1, 1) := by decide +kernel
theorem dd_W_reach_51 : decode c_W_reach 51 = .ok (.iinc 2 1, 3) := by decide +kernel
theorem dd_W_reach_54 : decode c_W_reach 54 = .ok (.goto (-38), 3) := by decide +kernel
theorem dd_W_reach_57 : decode c_W_reach 57 = .ok (.iload_n 1, 1) := by decide +kernel
theorem dd_W_reach_58 : decode c_W_reach 58 = .ok (.ireturn, 1) := by decide +kernel
theorem dd_M_reach_0 : decode c_M_reach 0 = .ok (.aload_n 0, 1) := by decide +kernel
theorem dd_M_reach_1 : decode c_M_reach 1 = .ok (.getfield 242, 3) := by decide +kernel
theorem dd_M_reach_4 : decode c_M_reach 4 = .ok (.ifCond .ne 5, 3) := by decide +kernel
theorem dd_M_reach_7 : decode c_M_reach 7 = .ok (.iconst (-1), 1) := by decide +kernel
theorem dd_M_reach_8 : decode c_M_reach 8 = .ok (.ireturn, 1) := by decide +kernel
theorem dd_M_reach_9 : decode c_M_reach 9 = .ok (.iconst 0, 1) := by decide +kernel
theorem dd_M_reach_10 : decode c_M_reach 10 = .ok (.istore_n 1, 1) := by decide +kernel
theorem dd_M_reach_11 : decode c_M_reach 11 = .ok (.iconst 0, 1) := by decide +kernel
theorem dd_M_reach_12 : decode c_M_reach 12 = .ok (.istore_n 2, 1) := by decide +kernel
theorem dd_M_reach_13 : decode c_M_reach 13 = .ok (.iload_n 2, 1) := by decide +kernel
theorem dd_M_reach_14 : decode c_M_reach 14 = .ok (.aload_n 0, 1) := by decide +kernel
theorem dd_M_reach_15 : decode c_M_reach 15 = .ok (.getfield 242, 3) := by decide +kernel
theorem dd_M_reach_18 : decode c_M_reach 18 = .ok (.if_icmp .ge 34, 3) := by decide +kernel
theorem dd_M_reach_21 : decode c_M_reach 21 = .ok (.iload_n 1, 1) := by decide +kernel
theorem dd_M_reach_22 : decode c_M_reach 22 = .ok (.aload_n 0, 1) := by decide +kernel
theorem dd_M_reach_23 : decode c_M_reach 23 = .ok (.iload_n 2, 1) := by decide +kernel
theorem dd_M_reach_24 : decode c_M_reach 24 = .ok (.invokevirtual 290, 3) := by decide +kernel
theorem dd_M_reach_27 : decode c_M_reach 27 = .ok (.aload_n 0, 1) := by decide +kernel
theorem dd_M_reach_28 : decode c_M_reach 28 = .ok (.getfield 58, 3) := by decide +kernel
theorem dd_M_reach_31 : decode c_M_reach 31 = .ok (.bipush 44, 2) := by decide +kernel
theorem dd_M_reach_33 : decode c_M_reach 33 = .ok (.iaload, 1) := by decide +kernel
theorem dd_M_reach_34 : decode c_M_reach 34 = .ok (.if_icmp .gt 9, 3) := by decide +kernel
theorem dd_M_reach_37 : decode c_M_reach 37 = .ok (.iconst 1, 1) := by decide +kernel
theorem dd_M_reach_38 : decode c_M_reach 38 = .ok (.iload_n 2, 1) := by decide +kernel
theorem dd_M_reach_39 : decode c_M_reach 39 = .ok (.ishl, 1) := by decide +kernel
theorem dd_M_reach_40 : decode c_M_reach 40 = .ok (.goto 4, 3) := by decide +kernel
theorem dd_M_reach_43 : decode c_M_reach 43 = .ok (.iconst 0, 1) := by decide +kernel
theorem dd_M_reach_44 : decode c_M_reach 44 = .ok (.ior, 1) := by decide +kernel
theorem dd_M_reach_45 : decode c_M_reach 45 = .ok (.istore_n 1, 1) := by decide +kernel
theorem dd_M_reach_46 : decode c_M_reach 46 = .ok (.iinc 2 1, 3) := by decide +kernel
theorem dd_M_reach_49 : decode c_M_reach 49 = .ok (.goto (-36), 3) := by decide +kernel
theorem dd_M_reach_52 : decode c_M_reach 52 = .ok (.iload_n 1, 1) := by decide +kernel
theorem dd_M_reach_53 : decode c_M_reach 53 = .ok (.ireturn, 1) := by decide +kernel
theorem dd_W_shares_0 : decode c_W_shares 0 = .ok (.aload_n 0, 1) := by decide +kernel
theorem dd_W_shares_1 : decode c_W_shares 1 = .ok (.getfield 42, 3) := by decide +kernel
theorem dd_W_shares_4 : decode c_W_shares 4 = .ok (.iload_n 1, 1) := by decide +kernel
theorem dd_W_shares_5 : decode c_W_shares 5 = .ok (.invokevirtual 163, 3) := by decide +kernel
theorem dd_W_shares_8 : decode c_W_shares 8 = .ok (.ifCond .eq 14, 3) := by decide +kernel
theorem dd_W_shares_11 : decode c_W_shares 11 = .ok (.iload_n 2, 1) := by decide +kernel
theorem dd_W_shares_12 : decode c_W_shares 12 = .ok (.ifCond .lt 10, 3) := by decide +kernel
theorem dd_W_shares_15 : decode c_W_shares 15 = .ok (.iload_n 2, 1) := by decide +kernel
theorem dd_W_shares_16 : decode c_W_shares 16 = .ok (.sipush 999, 3) := by decide +kernel
theorem dd_W_shares_19 : decode c_W_shares 19 = .ok (.if_icmp .le 5, 3) := by decide +kernel
theorem dd_W_shares_22 : decode c_W_shares 22 = .ok (.iconst (-1), 1) := by decide +kernel
theorem dd_W_shares_23 : decode c_W_shares 23 = .ok (.ireturn, 1) := by decide +kernel
theorem dd_W_shares_24 : decode c_W_shares 24 = .ok (.iconst 0, 1) := by decide +kernel
theorem dd_W_shares_25 : decode c_W_shares 25 = .ok (.istore_n 3, 1) := by decide +kernel
theorem dd_W_shares_26 : decode c_W_shares 26 = .ok (.iconst 0, 1) := by decide +kernel
theorem dd_W_shares_27 : decode c_W_shares 27 = .ok (.istore 4, 2) := by decide +kernel
theorem dd_W_shares_29 : decode c_W_shares 29 = .ok (.iload 4, 2) := by decide +kernel
theorem dd_W_shares_31 : decode c_W_shares 31 = .ok (.aload_n 0, 1) := by decide +kernel
theorem dd_W_shares_32 : decode c_W_shares 32 = .ok (.getfield 42, 3) := by decide +kernel
theorem dd_W_shares_35 : decode c_W_shares 35 = .ok (.getfield 250, 3) := by decide +kernel
theorem dd_W_shares_38 : decode c_W_shares 38 = .ok (.if_icmp .ge 22, 3) := by decide +kernel
theorem dd_W_shares_41 : decode c_W_shares 41 = .ok (.iload_n 3, 1) := by decide +kernel
theorem dd_W_shares_42 : decode c_W_shares 42 = .ok (.aload_n 0, 1) := by decide +kernel
theorem dd_W_shares_43 : decode c_W_shares 43 = .ok (.getfield 42, 3) := by decide +kernel
theorem dd_W_shares_46 : decode c_W_shares 46 = .ok (.getfield 169, 3) := by decide +kernel
theorem dd_W_shares_49 : decode c_W_shares 49 = .ok (.iload 4, 2) := by decide +kernel
theorem dd_W_shares_51 : decode c_W_shares 51 = .ok (.iaload, 1) := by decide +kernel
theorem dd_W_shares_52 : decode c_W_shares 52 = .ok (.iadd, 1) := by decide +kernel
theorem dd_W_shares_53 : decode c_W_shares 53 = .ok (.istore_n 3, 1) := by decide +kernel
theorem dd_W_shares_54 : decode c_W_shares 54 = .ok (.iinc 4 1, 3) := by decide +kernel
theorem dd_W_shares_57 : decode c_W_shares 57 = .ok (.goto (-28), 3) := by decide +kernel
theorem dd_W_shares_60 : decode c_W_shares 60 = .ok (.iload_n 3, 1) := by decide +kernel
theorem dd_W_shares_61 : decode c_W_shares 61 = .ok (.ifCond .le 19, 3) := by decide +kernel
theorem dd_W_shares_64 : decode c_W_shares 64 = .ok (.iload_n 2, 1) := by decide +kernel
theorem dd_W_shares_65 : decode c_W_shares 65 = .ok (.aload_n 0, 1) := by decide +kernel
theorem dd_W_shares_66 : decode c_W_shares 66 = .ok (.getfield 42, 3) := by decide +kernel
theorem dd_W_shares_69 : decode c_W_shares 69 = .ok (.getfield 169, 3) := by decide +kernel
theorem dd_W_shares_72 : decode c_W_shares 72 = .ok (.iload_n 1, 1) := by decide +kernel
theorem dd_W_shares_73 : decode c_W_shares 73 = .ok (.iaload, 1) := by decide +kernel
theorem dd_W_shares_74 : decode c_W_shares 74 = .ok (.imul, 1) := by decide +kernel
theorem dd_W_shares_75 : decode c_W_shares 75 = .ok (.iload_n 3, 1) := by decide +kernel
theorem dd_W_shares_76 : decode c_W_shares 76 = .ok (.idiv, 1) := by decide +kernel
theorem dd_W_shares_77 : decode c_W_shares 77 = .ok (.goto 4, 3) := by decide +kernel
theorem dd_W_shares_80 : decode c_W_shares 80 = .ok (.iconst 0, 1) := by decide +kernel
theorem dd_W_shares_81 : decode c_W_shares 81 = .ok (.ireturn, 1) := by decide +kernel
theorem dd_M_shares_0 : decode c_M_shares 0 = .ok (.aload_n 0, 1) := by decide +kernel
theorem dd_M_shares_1 : decode c_M_shares 1 = .ok (.iload_n 1, 1) := by decide +kernel
theorem dd_M_shares_2 : decode c_M_shares 2 = .ok (.invokevirtual 306, 3) := by decide +kernel
theorem dd_M_shares_5 : decode c_M_shares 5 = .ok (.ifCond .eq 14, 3) := by decide +kernel
theorem dd_M_shares_8 : decode c_M_shares 8 = .ok (.iload_n 2, 1) := by decide +kernel
theorem dd_M_shares_9 : decode c_M_shares 9 = .ok (.iconst 0, 1) := by decide +kernel
theorem dd_M_shares_10 : decode c_M_shares 10 = .ok (.sipush 999, 3) := by decide +kernel
theorem dd_M_shares_13 : decode c_M_shares 13 = .ok (.invokestatic 205, 3) := by decide +kernel
theorem dd_M_shares_16 : decode c_M_shares 16 = .ok (.ifCond .ne 5, 3) := by decide +kernel
theorem dd_M_shares_19 : decode c_M_shares 19 = .ok (.iconst (-1), 1) := by decide +kernel
theorem dd_M_shares_20 : decode c_M_shares 20 = .ok (.ireturn, 1) := by decide +kernel
theorem dd_M_shares_21 : decode c_M_shares 21 = .ok (.iconst 0, 1) := by decide +kernel
theorem dd_M_shares_22 : decode c_M_shares 22 = .ok (.istore_n 3, 1) := by decide +kernel
theorem dd_M_shares_23 : decode c_M_shares 23 = .ok (.iconst 0, 1) := by decide +kernel
theorem dd_M_shares_24 : decode c_M_shares 24 = .ok (.istore 4, 2) := by decide +kernel
theorem dd_M_shares_26 : decode c_M_shares 26 = .ok (.iload 4, 2) := by decide +kernel
theorem dd_M_shares_28 : decode c_M_shares 28 = .ok (.aload_n 0, 1) := by decide +kernel
theorem dd_M_shares_29 : decode c_M_shares 29 = .ok (.getfield 245, 3) := by decide +kernel
theorem dd_M_shares_32 : decode c_M_shares 32 = .ok (.if_icmp .ge 19, 3) := by decide +kernel
theorem dd_M_shares_35 : decode c_M_shares 35 = .ok (.iload_n 3, 1) := by decide +kernel
theorem dd_M_shares_36 : decode c_M_shares 36 = .ok (.aload_n 0, 1) := by decide +kernel
theorem dd_M_shares_37 : decode c_M_shares 37 = .ok (.iload 4, 2) := by decide +kernel
theorem dd_M_shares_39 : decode c_M_shares 39 = .ok (.iconst 0, 1) := by decide +kernel
theorem dd_M_shares_40 : decode c_M_shares 40 = .ok (.invokevirtual 248, 3) := by decide +kernel
theorem dd_M_shares_43 : decode c_M_shares 43 = .ok (.iadd, 1) := by decide +kernel
theorem dd_M_shares_44 : decode c_M_shares 44 = .ok (.istore_n 3, 1) := by decide +kernel
theorem dd_M_shares_45 : decode c_M_shares 45 = .ok (.iinc 4 1, 3) := by decide +kernel
theorem dd_M_shares_48 : decode c_M_shares 48 = .ok (.goto (-22), 3) := by decide +kernel
theorem dd_M_shares_51 : decode c_M_shares 51 = .ok (.iload_n 2, 1) := by decide +kernel
theorem dd_M_shares_52 : decode c_M_shares 52 = .ok (.aload_n 0, 1) := by decide +kernel
theorem dd_M_shares_53 : decode c_M_shares 53 = .ok (.iload_n 1, 1) := by decide +kernel
theorem dd_M_shares_54 : decode c_M_shares 54 = .ok (.iconst 0, 1) := by decide +kernel
theorem dd_M_shares_55 : decode c_M_shares 55 = .ok (.invokevirtual 248, 3) := by decide +kernel
theorem dd_M_shares_58 : decode c_M_shares 58 = .ok (.imul, 1) := by decide +kernel
theorem dd_M_shares_59 : decode c_M_shares 59 = .ok (.iload_n 3, 1) := by decide +kernel
theorem dd_M_shares_60 : decode c_M_shares 60 = .ok (.idiv, 1) := by decide +kernel
theorem dd_M_shares_61 : decode c_M_shares 61 = .ok (.ireturn, 1) := by decide +kernel
theorem dd_W_fresh_0 : decode c_W_fresh 0 = .ok (.aload_n 0, 1) := by decide +kernel
theorem dd_W_fresh_1 : decode c_W_fresh 1 = .ok (.getfield 42, 3) := by decide +kernel
theorem dd_W_fresh_4 : decode c_W_fresh 4 = .ok (.iload_n 1, 1) := by decide +kernel
theorem dd_W_fresh_5 : decode c_W_fresh 5 = .ok (.invokevirtual 150, 3) := by decide +kernel
theorem dd_W_fresh_8 : decode c_W_fresh 8 = .ok (.ifCond .eq 12, 3) := by decide +kernel
theorem dd_W_fresh_11 : decode c_W_fresh 11 = .ok (.iload_n 2, 1) := by decide +kernel
theorem dd_W_fresh_12 : decode c_W_fresh 12 = .ok (.ifCond .lt 8, 3) := by decide +kernel
theorem dd_W_fresh_15 : decode c_W_fresh 15 = .ok (.iload_n 2, 1) := by decide +kernel
theorem dd_W_fresh_16 : decode c_W_fresh 16 = .ok (.iconst 1, 1) := by decide +kernel
theorem dd_W_fresh_17 : decode c_W_fresh 17 = .ok (.if_icmp .le 5, 3) := by decide +kernel
theorem dd_W_fresh_20 : decode c_W_fresh 20 = .ok (.iconst (-1), 1) := by decide +kernel
theorem dd_W_fresh_21 : decode c_W_fresh 21 = .ok (.ireturn, 1) := by decide +kernel
theorem dd_W_fresh_22 : decode c_W_fresh 22 = .ok (.aload_n 0, 1) := by decide +kernel
theorem dd_W_fresh_23 : decode c_W_fresh 23 = .ok (.getfield 49, 3) := by decide +kernel
theorem dd_W_fresh_26 : decode c_W_fresh 26 = .ok (.iload_n 1, 1) := by decide +kernel
theorem dd_W_fresh_27 : decode c_W_fresh 27 = .ok (.invokevirtual 154, 3) := by decide +kernel
theorem dd_W_fresh_30 : decode c_W_fresh 30 = .ok (.istore_n 3, 1) := by decide +kernel
theorem dd_W_fresh_31 : decode c_W_fresh 31 = .ok (.iload_n 2, 1) := by decide +kernel
theorem dd_W_fresh_32 : decode c_W_fresh 32 = .ok (.ifCond .ne 17, 3) := by decide +kernel
theorem dd_W_fresh_35 : decode c_W_fresh 35 = .ok (.aload_n 0, 1) := by decide +kernel
theorem dd_W_fresh_36 : decode c_W_fresh 36 = .ok (.getfield 49, 3) := by decide +kernel
theorem dd_W_fresh_39 : decode c_W_fresh 39 = .ok (.getfield 227, 3) := by decide +kernel
theorem dd_W_fresh_42 : decode c_W_fresh 42 = .ok (.iload_n 3, 1) := by decide +kernel
theorem dd_W_fresh_43 : decode c_W_fresh 43 = .ok (.iconst (-1), 1) := by decide +kernel
theorem dd_W_fresh_44 : decode c_W_fresh 44 = .ok (.ixor, 1) := by decide +kernel
theorem dd_W_fresh_45 : decode c_W_fresh 45 = .ok (.iand, 1) := by decide +kernel
theorem dd_W_fresh_46 : decode c_W_fresh 46 = .ok (.goto 14, 3) := by decide +kernel
theorem dd_W_fresh_49 : decode c_W_fresh 49 = .ok (.iload_n 3, 1) := by decide +kernel
theorem dd_W_fresh_50 : decode c_W_fresh 50 = .ok (.aload_n 0, 1) := by decide +kernel
theorem dd_W_fresh_51 : decode c_W_fresh 51 = .ok (.getfield 49, 3) := by decide +kernel
theorem dd_W_fresh_54 : decode c_W_fresh 54 = .ok (.getfield 227, 3) := by decide +kernel
theorem dd_W_fresh_57 : decode c_W_fresh 57 = .ok (.iconst (-1), 1) := by decide +kernel
theorem dd_W_fresh_58 : decode c_W_fresh 58 = .ok (.ixor, 1) := by decide +kernel
theorem dd_W_fresh_59 : decode c_W_fresh 59 = .ok (.iand, 1) := by decide +kernel
theorem dd_W_fresh_60 : decode c_W_fresh 60 = .ok (.ireturn, 1) := by decide +kernel
theorem dd_M_fresh_0 : decode c_M_fresh 0 = .ok (.aload_n 0, 1) := by decide +kernel
theorem dd_M_fresh_1 : decode c_M_fresh 1 = .ok (.iload_n 1, 1) := by decide +kernel
theorem dd_M_fresh_2 : decode c_M_fresh 2 = .ok (.invokevirtual 300, 3) := by decide +kernel
theorem dd_M_fresh_5 : decode c_M_fresh 5 = .ok (.ifCond .eq 12, 3) := by decide +kernel
theorem dd_M_fresh_8 : decode c_M_fresh 8 = .ok (.iload_n 2, 1) := by decide +kernel
theorem dd_M_fresh_9 : decode c_M_fresh 9 = .ok (.iconst 0, 1) := by decide +kernel
theorem dd_M_fresh_10 : decode c_M_fresh 10 = .ok (.iconst 1, 1) := by decide +kernel
theorem dd_M_fresh_11 : decode c_M_fresh 11 = .ok (.invokestatic 205, 3) := by decide +kernel
theorem dd_M_fresh_14 : decode c_M_fresh 14 = .ok (.ifCond .ne 5, 3) := by decide +kernel
theorem dd_M_fresh_17 : decode c_M_fresh 17 = .ok (.iconst (-1), 1) := by decide +kernel
theorem dd_M_fresh_18 : decode c_M_fresh 18 = .ok (.ireturn, 1) := by decide +kernel
theorem dd_M_fresh_19 : decode c_M_fresh 19 = .ok (.iload_n 2, 1) := by decide +kernel
theorem dd_M_fresh_20 : decode c_M_fresh 20 = .ok (.ifCond .ne 21, 3) := by decide +kernel
theorem dd_M_fresh_23 : decode c_M_fresh 23 = .ok (.aload_n 0, 1) := by decide +kernel
theorem dd_M_fresh_24 : decode c_M_fresh 24 = .ok (.getfield 58, 3) := by decide +kernel
theorem dd_M_fresh_27 : decode c_M_fresh 27 = .ok (.bipush 43, 2) := by decide +kernel
theorem dd_M_fresh_29 : decode c_M_fresh 29 = .ok (.iaload, 1) := by decide +kernel
theorem dd_M_fresh_30 : decode c_M_fresh 30 = .ok (.aload_n 0, 1) := by decide +kernel
theorem dd_M_fresh_31 : decode c_M_fresh 31 = .ok (.iload_n 1, 1) := by decide +kernel
theorem dd_M_fresh_32 : decode c_M_fresh 32 = .ok (.invokevirtual 303, 3) := by decide +kernel
theorem dd_M_fresh_35 : decode c_M_fresh 35 = .ok (.iconst (-1), 1) := by decide +kernel
theorem dd_M_fresh_36 : decode c_M_fresh 36 = .ok (.ixor, 1) := by decide +kernel
theorem dd_M_fresh_37 : decode c_M_fresh 37 = .ok (.iand, 1) := by decide +kernel
theorem dd_M_fresh_38 : decode c_M_fresh 38 = .ok (.goto 18, 3) := by decide +kernel
theorem dd_M_fresh_41 : decode c_M_fresh 41 = .ok (.aload_n 0, 1) := by decide +kernel
theorem dd_M_fresh_42 : decode c_M_fresh 42 = .ok (.iload_n 1, 1) := by decide +kernel
theorem dd_M_fresh_43 : decode c_M_fresh 43 = .ok (.invokevirtual 303, 3) := by decide +kernel
theorem dd_M_fresh_46 : decode c_M_fresh 46 = .ok (.aload_n 0, 1) := by decide +kernel
theorem dd_M_fresh_47 : decode c_M_fresh 47 = .ok (.getfield 58, 3) := by decide +kernel
theorem dd_M_fresh_50 : decode c_M_fresh 50 = .ok (.bipush 43, 2) := by decide +kernel
theorem dd_M_fresh_52 : decode c_M_fresh 52 = .ok (.iaload, 1) := by decide +kernel
theorem dd_M_fresh_53 : decode c_M_fresh 53 = .ok (.iconst (-1), 1) := by decide +kernel
theorem dd_M_fresh_54 : decode c_M_fresh 54 = .ok (.ixor, 1) := by decide +kernel
theorem dd_M_fresh_55 : decode c_M_fresh 55 = .ok (.iand, 1) := by decide +kernel
theorem dd_M_fresh_56 : decode c_M_fresh 56 = .ok (.ireturn, 1) := by decide +kernel
theorem dd_W_where_0 : decode c_W_where 0 = .ok (.aload_n 0, 1) := by decide +kernel
theorem dd_W_where_1 : decode c_W_where 1 = .ok (.getfield 42, 3) := by decide +kernel
theorem dd_W_where_4 : decode c_W_where 4 = .ok (.iload_n 1, 1) := by decide +kernel
theorem dd_W_where_5 : decode c_W_where 5 = .ok (.invokevirtual 163, 3) := by decide +kernel
theorem dd_W_where_8 : decode c_W_where 8 = .ok (.ifCond .eq 14, 3) := by decide +kernel
theorem dd_W_where_11 : decode c_W_where 11 = .ok (.iload_n 2, 1) := by decide +kernel
theorem dd_W_where_12 : decode c_W_where 12 = .ok (.iconst 1, 1) := by decide +kernel
theorem dd_W_where_13 : decode c_W_where 13 = .ok (.if_icmp .lt 9, 3) := by decide +kernel
theorem dd_W_where_16 : decode c_W_where 16 = .ok (.iload_n 2, 1) := by decide +kernel
theorem dd_W_where_17 : decode c_W_where 17 = .ok (.bipush 20, 2) := by decide +kernel
theorem dd_W_where_19 : decode c_W_where 19 = .ok (.if_icmp .le 5, 3) := by decide +kernel
theorem dd_W_where_22 : decode c_W_where 22 = .ok (.iconst (-1), 1) := by decide +kernel
theorem dd_W_where_23 : decode c_W_where 23 = .ok (.ireturn, 1) := by decide +kernel
theorem dd_W_where_24 : decode c_W_where 24 = .ok (.iconst 0, 1) := by decide +kernel
theorem dd_W_where_25 : decode c_W_where 25 = .ok (.istore_n 3, 1) := by decide +kernel
theorem dd_W_where_26 : decode c_W_where 26 = .ok (.iconst 0, 1) := by decide +kernel
theorem dd_W_where_27 : decode c_W_where 27 = .ok (.istore 4, 2) := by decide +kernel
theorem dd_W_where_29 : decode c_W_where 29 = .ok (.iload 4, 2) := by decide +kernel
theorem dd_W_where_31 : decode c_W_where 31 = .ok (.aload_n 0, 1) := by decide +kernel
theorem dd_W_where_32 : decode c_W_where 32 = .ok (.getfield 42, 3) := by decide +kernel
theorem dd_W_where_35 : decode c_W_where 35 = .ok (.getfield 121, 3) := by decide +kernel
theorem dd_W_where_38 : decode c_W_where 38 = .ok (.if_icmp .ge 30, 3) := by decide +kernel
theorem dd_W_where_41 : decode c_W_where 41 = .ok (.aload_n 0, 1) := by decide +kernel
theorem dd_W_where_42 : decode c_W_where 42 = .ok (.getfield 65, 3) := by decide +kernel
theorem dd_W_where_45 : decode c_W_where 45 = .ok (.iload 4, 2) := by decide +kernel
theorem dd_W_where_47 : decode c_W_where 47 = .ok (.iload_n 1, 1) := by decide +kernel
theorem dd_W_where_48 : decode c_W_where 48 = .ok (.invokevirtual 188, 3) := by decide +kernel
theorem dd_W_where_51 : decode c_W_where 51 = .ok (.iload_n 2, 1) := by decide +kernel
theorem dd_W_where_52 : decode c_W_where 52 = .ok (.if_icmp .lt 10, 3) := by decide +kernel
theorem dd_W_where_55 : decode c_W_where 55 = .ok (.iload_n 3, 1) := by decide +kernel
theorem dd_W_where_56 : decode c_W_where 56 = .ok (.iconst 1, 1) := by decide +kernel
theorem dd_W_where_57 : decode c_W_where 57 = .ok (.iload 4, 2) := by decide +kernel
theorem dd_W_where_59 : decode c_W_where 59 = .ok (.ishl, 1) := by decide +kernel
theorem dd_W_where_60 : decode c_W_where 60 = .ok (.ior, 1) := by decide +kernel
theorem dd_W_where_61 : decode c_W_where 61 = .ok (.istore_n 3, 1) := by decide +kernel
theorem dd_W_where_62 : decode c_W_where 62 = .ok (.iinc 4 1, 3) := by decide +kernel
theorem dd_W_where_65 : decode c_W_where 65 = .ok (.goto (-36), 3) := by decide +kernel
theorem dd_W_where_68 : decode c_W_where 68 = .ok (.iload_n 3, 1) := by decide +kernel
theorem dd_W_where_69 : decode c_W_where 69 = .ok (.ireturn, 1) := by decide +kernel
theorem dd_M_where_0 : decode c_M_where 0 = .ok (.aload_n 0, 1) := by decide +kernel
theorem dd_M_where_1 : decode c_M_where 1 = .ok (.iload_n 1, 1) := by decide +kernel
theorem dd_M_where_2 : decode c_M_where 2 = .ok (.invokevirtual 306, 3) := by decide +kernel
theorem dd_M_where_5 : decode c_M_where 5 = .ok (.ifCond .eq 22, 3) := by decide +kernel
theorem dd_M_where_8 : decode c_M_where 8 = .ok (.iload_n 2, 1) := by decide +kernel
theorem dd_M_where_9 : decode c_M_where 9 = .ok (.iconst 1, 1) := by decide +kernel
theorem dd_M_where_10 : decode c_M_where 10 = .ok (.bipush 20, 2) := by decide +kernel
theorem dd_M_where_12 : decode c_M_where 12 = .ok (.invokestatic 205, 3) := by decide +kernel
theorem dd_M_where_15 : decode c_M_where 15 = .ok (.ifCond .eq 12, 3) := by decide +kernel
theorem dd_M_where_18 : decode c_M_where 18 = .ok (.aload_n 0, 1) := by decide +kernel
theorem dd_M_where_19 : decode c_M_where 19 = .ok (.iload_n 1, 1) := by decide +kernel
theorem dd_M_where_20 : decode c_M_where 20 = .ok (.iload_n 2, 1) := by decide +kernel
theorem dd_M_where_21 : decode c_M_where 21 = .ok (.invokevirtual 371, 3) := by decide +kernel
theorem dd_M_where_24 : decode c_M_where 24 = .ok (.goto 4, 3) := by decide +kernel
theorem dd_M_where_27 : decode c_M_where 27 = .ok (.iconst (-1), 1) := by decide +kernel
theorem dd_M_where_28 : decode c_M_where 28 = .ok (.ireturn, 1) := by decide +kernel
theorem dd_Plans_tellBestOnRound_0 : decode c_Plans_tellBestOnRound 0 = .ok (.aload_n 0, 1) := by decide +kernel
theorem dd_Plans_tellBestOnRound_1 : decode c_Plans_tellBestOnRound 1 = .ok (.iload_n 1, 1) := by decide +kernel
theorem dd_Plans_tellBestOnRound_2 : decode c_Plans_tellBestOnRound 2 = .ok (.aload_n 0, 1) := by decide +kernel
theorem dd_Plans_tellBestOnRound_3 : decode c_Plans_tellBestOnRound 3 = .ok (.getfield 18, 3) := by decide +kernel
theorem dd_Plans_tellBestOnRound_6 : decode c_Plans_tellBestOnRound 6 = .ok (.invokevirtual 166, 3) := by decide +kernel
theorem dd_Plans_tellBestOnRound_9 : decode c_Plans_tellBestOnRound 9 = .ok (.aload_n 0, 1) := by decide +kernel
theorem dd_Plans_tellBestOnRound_10 : decode c_Plans_tellBestOnRound 10 = .ok (.getfield 36, 3) := by decide +kernel
theorem dd_Plans_tellBestOnRound_13 : decode c_Plans_tellBestOnRound 13 = .ok (.iconst (-1), 1) := by decide +kernel
theorem dd_Plans_tellBestOnRound_14 : decode c_Plans_tellBestOnRound 14 = .ok (.if_icmp .ne 4, 3) := by decide +kernel
theorem dd_Plans_tellBestOnRound_17 : decode c_Plans_tellBestOnRound 17 = .ok (.return_, 1) := by decide +kernel
theorem dd_Plans_tellBestOnRound_18 : decode c_Plans_tellBestOnRound 18 = .ok (.iload_n 1, 1) := by decide +kernel
theorem dd_Plans_tellBestOnRound_19 : decode c_Plans_tellBestOnRound 19 = .ok (.bipush 6, 2) := by decide +kernel
theorem dd_Plans_tellBestOnRound_21 : decode c_Plans_tellBestOnRound 21 = .ok (.imul, 1) := by decide +kernel
theorem dd_Plans_tellBestOnRound_22 : decode c_Plans_tellBestOnRound 22 = .ok (.aload_n 0, 1) := by decide +kernel
theorem dd_Plans_tellBestOnRound_23 : decode c_Plans_tellBestOnRound 23 = .ok (.getfield 36, 3) := by decide +kernel
theorem dd_Plans_tellBestOnRound_26 : decode c_Plans_tellBestOnRound 26 = .ok (.iadd, 1) := by decide +kernel
theorem dd_Plans_tellBestOnRound_27 : decode c_Plans_tellBestOnRound 27 = .ok (.istore_n 2, 1) := by decide +kernel
theorem dd_Plans_tellBestOnRound_28 : decode c_Plans_tellBestOnRound 28 = .ok (.aload_n 0, 1) := by decide +kernel
theorem dd_Plans_tellBestOnRound_29 : decode c_Plans_tellBestOnRound 29 = .ok (.getfield 18, 3) := by decide +kernel
theorem dd_Plans_tellBestOnRound_32 : decode c_Plans_tellBestOnRound 32 = .ok (.iload_n 2, 1) := by decide +kernel
theorem dd_Plans_tellBestOnRound_33 : decode c_Plans_tellBestOnRound 33 = .ok (.aload_n 0, 1) := by decide +kernel
theorem dd_Plans_tellBestOnRound_34 : decode c_Plans_tellBestOnRound 34 = .ok (.getfield 18, 3) := by decide +kernel
theorem dd_Plans_tellBestOnRound_37 : decode c_Plans_tellBestOnRound 37 = .ok (.iload_n 2, 1) := by decide +kernel
theorem dd_Plans_tellBestOnRound_38 : decode c_Plans_tellBestOnRound 38 = .ok (.iaload, 1) := by decide +kernel
theorem dd_Plans_tellBestOnRound_39 : decode c_Plans_tellBestOnRound 39 = .ok (.invokestatic 170, 3) := by decide +kernel
theorem dd_Plans_tellBestOnRound_42 : decode c_Plans_tellBestOnRound 42 = .ok (.iastore, 1) := by decide +kernel
theorem dd_Plans_tellBestOnRound_43 : decode c_Plans_tellBestOnRound 43 = .ok (.aload_n 0, 1) := by decide +kernel
theorem dd_Plans_tellBestOnRound_44 : decode c_Plans_tellBestOnRound 44 = .ok (.dup, 1) := by decide +kernel
theorem dd_Plans_tellBestOnRound_45 : decode c_Plans_tellBestOnRound 45 = .ok (.getfield 141, 3) := by decide +kernel
theorem dd_Plans_tellBestOnRound_48 : decode c_Plans_tellBestOnRound 48 = .ok (.iconst 1, 1) := by decide +kernel
theorem dd_Plans_tellBestOnRound_49 : decode c_Plans_tellBestOnRound 49 = .ok (.iadd, 1) := by decide +kernel
theorem dd_Plans_tellBestOnRound_50 : decode c_Plans_tellBestOnRound 50 = .ok (.putfield 141, 3) := by decide +kernel
theorem dd_Plans_tellBestOnRound_53 : decode c_Plans_tellBestOnRound 53 = .ok (.aload_n 0, 1) := by decide +kernel
theorem dd_Plans_tellBestOnRound_54 : decode c_Plans_tellBestOnRound 54 = .ok (.dup, 1) := by decide +kernel
theorem dd_Plans_tellBestOnRound_55 : decode c_Plans_tellBestOnRound 55 = .ok (.getfield 144, 3) := by decide +kernel
theorem dd_Plans_tellBestOnRound_58 : decode c_Plans_tellBestOnRound 58 = .ok (.aload_n 0, 1) := by decide +kernel
theorem dd_Plans_tellBestOnRound_59 : decode c_Plans_tellBestOnRound 59 = .ok (.getfield 40, 3) := by decide +kernel
theorem dd_Plans_tellBestOnRound_62 : decode c_Plans_tellBestOnRound 62 = .ok (.iadd, 1) := by decide +kernel
theorem dd_Plans_tellBestOnRound_63 : decode c_Plans_tellBestOnRound 63 = .ok (.putfield 144, 3) := by decide +kernel
theorem dd_Plans_tellBestOnRound_66 : decode c_Plans_tellBestOnRound 66 = .ok (.aload_n 0, 1) := by decide +kernel
theorem dd_Plans_tellBestOnRound_67 : decode c_Plans_tellBestOnRound 67 = .ok (.aload_n 0, 1) := by decide +kernel
theorem dd_Plans_tellBestOnRound_68 : decode c_Plans_tellBestOnRound 68 = .ok (.getfield 147, 3) := by decide +kernel
theorem dd_Plans_tellBestOnRound_71 : decode c_Plans_tellBestOnRound 71 = .ok (.aload_n 0, 1) := by decide +kernel
theorem dd_Plans_tellBestOnRound_72 : decode c_Plans_tellBestOnRound 72 = .ok (.getfield 40, 3) := by decide +kernel
theorem dd_Plans_tellBestOnRound_75 : decode c_Plans_tellBestOnRound 75 = .ok (.invokestatic 91, 3) := by decide +kernel
theorem dd_Plans_tellBestOnRound_78 : decode c_Plans_tellBestOnRound 78 = .ok (.putfield 147, 3) := by decide +kernel
theorem dd_Plans_tellBestOnRound_81 : decode c_Plans_tellBestOnRound 81 = .ok (.return_, 1) := by decide +kernel
theorem dd_Plans_goRound_0 : decode c_Plans_goRound 0 = .ok (.aload_n 0, 1) := by decide +kernel
theorem dd_Plans_goRound_1 : decode c_Plans_goRound 1 = .ok (.iconst 0, 1) := by decide +kernel
theorem dd_Plans_goRound_2 : decode c_Plans_goRound 2 = .ok (.putfield 141, 3) := by decide +kernel
theorem dd_Plans_goRound_5 : decode c_Plans_goRound 5 = .ok (.aload_n 0, 1) := by decide +kernel
theorem dd_Plans_goRound_6 : decode c_Plans_goRound 6 = .ok (.iconst 0, 1) := by decide +kernel
theorem dd_Plans_goRound_7 : decode c_Plans_goRound 7 = .ok (.putfield 144, 3) := by decide +kernel
theorem dd_Plans_goRound_10 : decode c_Plans_goRound 10 = .ok (.aload_n 0, 1) := by decide +kernel
theorem dd_Plans_goRound_11 : decode c_Plans_goRound 11 = .ok (.aload_n 0, 1) := by decide +kernel
theorem dd_Plans_goRound_12 : decode c_Plans_goRound 12 = .ok (.getfield 28, 3) := by decide +kernel
theorem dd_Plans_goRound_15 : decode c_Plans_goRound 15 = .ok (.getfield 82, 3) := by decide +kernel
theorem dd_Plans_goRound_18 : decode c_Plans_goRound 18 = .ok (.putfield 147, 3) := by decide +kernel
theorem dd_Plans_goRound_21 : decode c_Plans_goRound 21 = .ok (.aload_n 0, 1) := by decide +kernel
theorem dd_Plans_goRound_22 : decode c_Plans_goRound 22 = .ok (.getfield 28, 3) := by decide +kernel
theorem dd_Plans_goRound_25 : decode c_Plans_goRound 25 = .ok (.getfield 150, 3) := by decide +kernel
theorem dd_Plans_goRound_28 : decode c_Plans_goRound 28 = .ok (.iconst 0, 1) := by decide +kernel
theorem dd_Plans_goRound_29 : decode c_Plans_goRound 29 = .ok (.aload_n 0, 1) := by decide +kernel
theorem dd_Plans_goRound_30 : decode c_Plans_goRound 30 = .ok (.getfield 18, 3) := by decide +kernel
theorem dd_Plans_goRound_33 : decode c_Plans_goRound 33 = .ok (.iconst 0, 1) := by decide +kernel
theorem dd_Plans_goRound_34 : decode c_Plans_goRound 34 = .ok (.bipush 36, 2) := by decide +kernel
theorem dd_Plans_goRound_36 : decode c_Plans_goRound 36 = .ok (.invokestatic 153, 3) := by decide +kernel
theorem dd_Plans_goRound_39 : decode c_Plans_goRound 39 = .ok (.aload_n 0, 1) := by decide +kernel
theorem dd_Plans_goRound_40 : decode c_Plans_goRound 40 = .ok (.getfield 24, 3) := by decide +kernel
theorem dd_Plans_goRound_43 : decode c_Plans_goRound 43 = .ok (.getfield 63, 3) := by decide +kernel
theorem dd_Plans_goRound_46 : decode c_Plans_goRound 46 = .ok (.iconst 1, 1) := by decide +kernel
theorem dd_Plans_goRound_47 : decode c_Plans_goRound 47 = .ok (.isub, 1) := by decide +kernel
theorem dd_Plans_goRound_48 : decode c_Plans_goRound 48 = .ok (.istore_n 1, 1) := by decide +kernel
theorem dd_Plans_goRound_49 : decode c_Plans_goRound 49 = .ok (.aload_n 0, 1) := by decide +kernel
theorem dd_Plans_goRound_50 : decode c_Plans_goRound 50 = .ok (.getfield 28, 3) := by decide +kernel
theorem dd_Plans_goRound_53 : decode c_Plans_goRound 53 = .ok (.getfield 159, 3) := by decide +kernel
theorem dd_Plans_goRound_56 : decode c_Plans_goRound 56 = .ok (.istore_n 2, 1) := by decide +kernel
theorem dd_Plans_goRound_57 : decode c_Plans_goRound 57 = .ok (.iload_n 2, 1) := by decide +kernel
theorem dd_Plans_goRound_58 : decode c_Plans_goRound 58 = .ok (.iload_n 1, 1) := by decide +kernel
theorem dd_Plans_goRound_59 : decode c_Plans_goRound 59 = .ok (.if_icmp .ge 7, 3) := by decide +kernel
theorem dd_Plans_goRound_62 : decode c_Plans_goRound 62 = .ok (.iconst 1, 1) := by decide +kernel
theorem dd_Plans_goRound_63 : decode c_Plans_goRound 63 = .ok (.goto 4, 3) := by decide +kernel
theorem dd_Plans_goRound_66 : decode c_Plans_goRound 66 = .ok (.iconst (-1), 1) := by decide +kernel
theorem dd_Plans_goRound_67 : decode c_Plans_goRound 67 = .ok (.istore_n 3, 1) := by decide +kernel
theorem dd_Plans_goRound_68 : decode c_Plans_goRound 68 = .ok (.iconst 0, 1) := by decide +kernel
theorem dd_Plans_goRound_69 : decode c_Plans_goRound 69 = .ok (.istore 4, 2) := by decide +kernel
theorem dd_Plans_goRound_71 : decode c_Plans_goRound 71 = .ok (.iload 4, 2) := by decide +kernel
theorem dd_Plans_goRound_73 : decode c_Plans_goRound 73 = .ok (.bipush 12, 2) := by decide +kernel
theorem dd_Plans_goRound_75 : decode c_Plans_goRound 75 = .ok (.if_icmp .ge 52, 3) := by decide +kernel
theorem dd_Plans_goRound_78 : decode c_Plans_goRound 78 = .ok (.aload_n 0, 1) := by decide +kernel
theorem dd_Plans_goRound_79 : decode c_Plans_goRound 79 = .ok (.iload_n 2, 1) := by decide +kernel
theorem dd_Plans_goRound_80 : decode c_Plans_goRound 80 = .ok (.invokevirtual 162, 3) := by decide +kernel
theorem dd_Plans_goRound_83 : decode c_Plans_goRound 83 = .ok (.aload_n 0, 1) := by decide +kernel
theorem dd_Plans_goRound_84 : decode c_Plans_goRound 84 = .ok (.getfield 147, 3) := by decide +kernel
theorem dd_Plans_goRound_87 : decode c_Plans_goRound 87 = .ok (.iconst 1, 1) := by decide +kernel
theorem dd_Plans_goRound_88 : decode c_Plans_goRound 88 = .ok (.if_icmp .lt 11, 3) := by decide +kernel
theorem dd_Plans_goRound_91 : decode c_Plans_goRound 91 = .ok (.iload_n 2, 1) := by decide +kernel
theorem dd_Plans_goRound_92 : decode c_Plans_goRound 92 = .ok (.ifCond .ne 8, 3) := by decide +kernel
theorem dd_Plans_goRound_95 : decode c_Plans_goRound 95 = .ok (.iload_n 3, 1) := by decide +kernel
theorem dd_Plans_goRound_96 : decode c_Plans_goRound 96 = .ok (.ifCond .ge 4, 3) := by decide +kernel
theorem dd_Plans_goRound_99 : decode c_Plans_goRound 99 = .ok (.return_, 1) := by decide +kernel
theorem dd_Plans_goRound_100 : decode c_Plans_goRound 100 = .ok (.aload_n 0, 1) := by decide +kernel
theorem dd_Plans_goRound_101 : decode c_Plans_goRound 101 = .ok (.dup, 1) := by decide +kernel
theorem dd_Plans_goRound_102 : decode c_Plans_goRound 102 = .ok (.getfield 147, 3) := by decide +kernel
theorem dd_Plans_goRound_105 : decode c_Plans_goRound 105 = .ok (.iconst 1, 1) := by decide +kernel
theorem dd_Plans_goRound_106 : decode c_Plans_goRound 106 = .ok (.isub, 1) := by decide +kernel
theorem dd_Plans_goRound_107 : decode c_Plans_goRound 107 = .ok (.putfield 147, 3) := by decide +kernel
theorem dd_Plans_goRound_110 : decode c_Plans_goRound 110 = .ok (.iload_n 2, 1) := by decide +kernel
theorem dd_Plans_goRound_111 : decode c_Plans_goRound 111 = .ok (.iload_n 3, 1) := by decide +kernel
theorem dd_Plans_goRound_112 : decode c_Plans_goRound 112 = .ok (.iadd, 1) := by decide +kernel
theorem dd_Plans_goRound_113 : decode c_Plans_goRound 113 = .ok (.istore_n 2, 1) := by decide +kernel
theorem dd_Plans_goRound_114 : decode c_Plans_goRound 114 = .ok (.iload_n 2, 1) := by decide +kernel
theorem dd_Plans_goRound_115 : decode c_Plans_goRound 115 = .ok (.iload_n 1, 1) := by decide +kernel
theorem dd_Plans_goRound_116 : decode c_Plans_goRound 116 = .ok (.if_icmp .ne 5, 3) := by decide +kernel
theorem dd_Plans_goRound_119 : decode c_Plans_goRound 119 = .ok (.iconst (-1), 1) := by decide +kernel
theorem dd_Plans_goRound_120 : decode c_Plans_goRound 120 = .ok (.istore_n 3, 1) := by decide +kernel
theorem dd_Plans_goRound_121 : decode c_Plans_goRound 121 = .ok (.iinc 4 1, 3) := by decide +kernel
theorem dd_Plans_goRound_124 : decode c_Plans_goRound 124 = .ok (.goto (-53), 3) := by decide +kernel
theorem dd_Plans_goRound_127 : decode c_Plans_goRound 127 = .ok (.return_, 1) := by decide +kernel
theorem dd_W_round_0 : decode c_W_round 0 = .ok (.aload_n 0, 1) := by decide +kernel
theorem dd_W_round_1 : decode c_W_round 1 = .ok (.getfield 42, 3) := by decide +kernel
theorem dd_W_round_4 : decode c_W_round 4 = .ok (.invokevirtual 235, 3) := by decide +kernel
theorem dd_W_round_7 : decode c_W_round 7 = .ok (.ifCond .eq 12, 3) := by decide +kernel
theorem dd_W_round_10 : decode c_W_round 10 = .ok (.iload_n 1, 1) := by decide +kernel
theorem dd_W_round_11 : decode c_W_round 11 = .ok (.ifCond .lt 8, 3) := by decide +kernel
theorem dd_W_round_14 : decode c_W_round 14 = .ok (.iload_n 1, 1) := by decide +kernel
theorem dd_W_round_15 : decode c_W_round 15 = .ok (.iconst 2, 1) := by decide +kernel
theorem dd_W_round_16 : decode c_W_round 16 = .ok (.if_icmp .le 5, 3) := by decide +kernel
theorem dd_W_round_19 : decode c_W_round 19 = .ok (.iconst (-1), 1) := by decide +kernel
theorem dd_W_round_20 : decode c_W_round 20 = .ok (.ireturn, 1) := by decide +kernel
theorem dd_W_round_21 : decode c_W_round 21 = .ok (.aload_n 0, 1) := by decide +kernel
theorem dd_W_round_22 : decode c_W_round 22 = .ok (.getfield 83, 3) := by decide +kernel
theorem dd_W_round_25 : decode c_W_round 25 = .ok (.invokevirtual 331, 3) := by decide +kernel
theorem dd_W_round_28 : decode c_W_round 28 = .ok (.iload_n 1, 1) := by decide +kernel
theorem dd_W_round_29 : decode c_W_round 29 = .ok (.ifCond .ne 11, 3) := by decide +kernel
theorem dd_W_round_32 : decode c_W_round 32 = .ok (.aload_n 0, 1) := by decide +kernel
theorem dd_W_round_33 : decode c_W_round 33 = .ok (.getfield 83, 3) := by decide +kernel
theorem dd_W_round_36 : decode c_W_round 36 = .ok (.getfield 334, 3) := by decide +kernel
theorem dd_W_round_39 : decode c_W_round 39 = .ok (.ireturn, 1) := by decide +kernel
theorem dd_W_round_40 : decode c_W_round 40 = .ok (.iload_n 1, 1) := by decide +kernel
theorem dd_W_round_41 : decode c_W_round 41 = .ok (.iconst 1, 1) := by decide +kernel
theorem dd_W_round_42 : decode c_W_round 42 = .ok (.if_icmp .ne 13, 3) := by decide +kernel
theorem dd_W_round_45 : decode c_W_round 45 = .ok (.aload_n 0, 1) := by decide +kernel
theorem dd_W_round_46 : decode c_W_round 46 = .ok (.getfield 83, 3) := by decide +kernel
theorem dd_W_round_49 : decode c_W_round 49 = .ok (.getfield 337, 3) := by decide +kernel
theorem dd_W_round_52 : decode c_W_round 52 = .ok (.goto 10, 3) := by decide +kernel
theorem dd_W_round_55 : decode c_W_round 55 = .ok (.aload_n 0, 1) := by decide +kernel
theorem dd_W_round_56 : decode c_W_round 56 = .ok (.getfield 83, 3) := by decide +kernel
theorem dd_W_round_59 : decode c_W_round 59 = .ok (.getfield 340, 3) := by decide +kernel
theorem dd_W_round_62 : decode c_W_round 62 = .ok (.ireturn, 1) := by decide +kernel
theorem dd_M_tellBest_0 : decode c_M_tellBest 0 = .ok (.aload_n 0, 1) := by decide +kernel
theorem dd_M_tellBest_1 : decode c_M_tellBest 1 = .ok (.aload_n 0, 1) := by decide +kernel
theorem dd_M_tellBest_2 : decode c_M_tellBest 2 = .ok (.getfield 58, 3) := by decide +kernel
theorem dd_M_tellBest_5 : decode c_M_tellBest 5 = .ok (.bipush 42, 2) := by decide +kernel
theorem dd_M_tellBest_7 : decode c_M_tellBest 7 = .ok (.iaload, 1) := by decide +kernel
theorem dd_M_tellBest_8 : decode c_M_tellBest 8 = .ok (.invokevirtual 349, 3) := by decide +kernel
theorem dd_M_tellBest_11 : decode c_M_tellBest 11 = .ok (.istore_n 1, 1) := by decide +kernel
theorem dd_M_tellBest_12 : decode c_M_tellBest 12 = .ok (.iload_n 1, 1) := by decide +kernel
theorem dd_M_tellBest_13 : decode c_M_tellBest 13 = .ok (.iconst (-1), 1) := by decide +kernel
theorem dd_M_tellBest_14 : decode c_M_tellBest 14 = .ok (.if_icmp .eq 27, 3) := by decide +kernel
theorem dd_M_tellBest_17 : decode c_M_tellBest 17 = .ok (.aload_n 0, 1) := by decide +kernel
theorem dd_M_tellBest_18 : decode c_M_tellBest 18 = .ok (.dup, 1) := by decide +kernel
theorem dd_M_tellBest_19 : decode c_M_tellBest 19 = .ok (.getfield 393, 3) := by decide +kernel
theorem dd_M_tellBest_22 : decode c_M_tellBest 22 = .ok (.aload_n 0, 1) := by decide +kernel
theorem dd_M_tellBest_23 : decode c_M_tellBest 23 = .ok (.iload_n 1, 1) := by decide +kernel
theorem dd_M_tellBest_24 : decode c_M_tellBest 24 = .ok (.invokevirtual 293, 3) := by decide +kernel
theorem dd_M_tellBest_27 : decode c_M_tellBest 27 = .ok (.iadd, 1) := by decide +kernel
theorem dd_M_tellBest_28 : decode c_M_tellBest 28 = .ok (.putfield 393, 3) := by decide +kernel
theorem dd_M_tellBest_31 : decode c_M_tellBest 31 = .ok (.aload_n 0, 1) := by decide +kernel
theorem dd_M_tellBest_32 : decode c_M_tellBest 32 = .ok (.dup, 1) := by decide +kernel
theorem dd_M_tellBest_33 : decode c_M_tellBest 33 = .ok (.getfield 396, 3) := by decide +kernel
theorem dd_M_tellBest_36 : decode c_M_tellBest 36 = .ok (.iconst 1, 1) := by decide +kernel
theorem dd_M_tellBest_37 : decode c_M_tellBest 37 = .ok (.iadd, 1) := by decide +kernel
theorem dd_M_tellBest_38 : decode c_M_tellBest 38 = .ok (.putfield 396, 3) := by decide +kernel
theorem dd_M_tellBest_41 : decode c_M_tellBest 41 = .ok (.return_, 1) := by decide +kernel
theorem dd_M_stepsTo_0 : decode c_M_stepsTo 0 = .ok (.aload_n 0, 1) := by decide +kernel
theorem dd_M_stepsTo_1 : decode c_M_stepsTo 1 = .ok (.getfield 58, 3) := by decide +kernel
theorem dd_M_stepsTo_4 : decode c_M_stepsTo 4 = .ok (.bipush 42, 2) := by decide +kernel
theorem dd_M_stepsTo_6 : decode c_M_stepsTo 6 = .ok (.iaload, 1) := by decide +kernel
theorem dd_M_stepsTo_7 : decode c_M_stepsTo 7 = .ok (.iload_n 1, 1) := by decide +kernel
theorem dd_M_stepsTo_8 : decode c_M_stepsTo 8 = .ok (.if_icmp .eq 59, 3) := by decide +kernel
theorem dd_M_stepsTo_11 : decode c_M_stepsTo 11 = .ok (.aload_n 0, 1) := by decide +kernel
theorem dd_M_stepsTo_12 : decode c_M_stepsTo 12 = .ok (.getfield 58, 3) := by decide +kernel
theorem dd_M_stepsTo_15 : decode c_M_stepsTo 15 = .ok (.bipush 44, 2) := by decide +kernel
theorem dd_M_stepsTo_17 : decode c_M_stepsTo 17 = .ok (.iaload, 1) := by decide +kernel
theorem dd_M_stepsTo_18 : decode c_M_stepsTo 18 = .ok (.iconst 1, 1) := by decide +kernel
theorem dd_M_stepsTo_19 : decode c_M_stepsTo 19 = .ok (.if_icmp .ge 5, 3) := by decide +kernel
theorem dd_M_stepsTo_22 : decode c_M_stepsTo 22 = .ok (.iconst 0, 1) := by decide +kernel
theorem dd_M_stepsTo_23 : decode c_M_stepsTo 23 = .ok (.ireturn, 1) := by decide +kernel
theorem dd_M_stepsTo_24 : decode c_M_stepsTo 24 = .ok (.aload_n 0, 1) := by decide +kernel
theorem dd_M_stepsTo_25 : decode c_M_stepsTo 25 = .ok (.aload_n 0, 1) := by decide +kernel
theorem dd_M_stepsTo_26 : decode c_M_stepsTo 26 = .ok (.getfield 58, 3) := by decide +kernel
theorem dd_M_stepsTo_29 : decode c_M_stepsTo 29 = .ok (.bipush 42, 2) := by decide +kernel
theorem dd_M_stepsTo_31 : decode c_M_stepsTo 31 = .ok (.iaload, 1) := by decide +kernel
theorem dd_M_stepsTo_32 : decode c_M_stepsTo 32 = .ok (.iload_n 1, 1) := by decide +kernel
theorem dd_M_stepsTo_33 : decode c_M_stepsTo 33 = .ok (.if_icmp .ge 15, 3) := by decide +kernel
theorem dd_M_stepsTo_36 : decode c_M_stepsTo 36 = .ok (.aload_n 0, 1) := by decide +kernel
theorem dd_M_stepsTo_37 : decode c_M_stepsTo 37 = .ok (.getfield 58, 3) := by decide +kernel
theorem dd_M_stepsTo_40 : decode c_M_stepsTo 40 = .ok (.bipush 42, 2) := by decide +kernel
theorem dd_M_stepsTo_42 : decode c_M_stepsTo 42 = .ok (.iaload, 1) := by decide +kernel
theorem dd_M_stepsTo_43 : decode c_M_stepsTo 43 = .ok (.iconst 1, 1) := by decide +kernel
theorem dd_M_stepsTo_44 : decode c_M_stepsTo 44 = .ok (.iadd, 1) := by decide +kernel
theorem dd_M_stepsTo_45 : decode c_M_stepsTo 45 = .ok (.goto 12, 3) := by decide +kernel
theorem dd_M_stepsTo_48 : decode c_M_stepsTo 48 = .ok (.aload_n 0, 1) := by decide +kernel
theorem dd_M_stepsTo_49 : decode c_M_stepsTo 49 = .ok (.getfield 58, 3) := by decide +kernel
theorem dd_M_stepsTo_52 : decode c_M_stepsTo 52 = .ok (.bipush 42, 2) := by decide +kernel
theorem dd_M_stepsTo_54 : decode c_M_stepsTo 54 = .ok (.iaload, 1) := by decide +kernel
theorem dd_M_stepsTo_55 : decode c_M_stepsTo 55 = .ok (.iconst 1, 1) := by decide +kernel
theorem dd_M_stepsTo_56 : decode c_M_stepsTo 56 = .ok (.isub, 1) := by decide +kernel
theorem dd_M_stepsTo_57 : decode c_M_stepsTo 57 = .ok (.invokevirtual 327, 3) := by decide +kernel
theorem dd_M_stepsTo_60 : decode c_M_stepsTo 60 = .ok (.aload_n 0, 1) := by decide +kernel
theorem dd_M_stepsTo_61 : decode c_M_stepsTo 61 = .ok (.invokevirtual 399, 3) := by decide +kernel
theorem dd_M_stepsTo_64 : decode c_M_stepsTo 64 = .ok (.goto (-64), 3) := by decide +kernel
theorem dd_M_stepsTo_67 : decode c_M_stepsTo 67 = .ok (.iconst 1, 1) := by decide +kernel
theorem dd_M_stepsTo_68 : decode c_M_stepsTo 68 = .ok (.ireturn, 1) := by decide +kernel
