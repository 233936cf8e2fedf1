/-! ===== decode rows ===== -/
theorem dd_M_text_0 : decode c_M_text 0 = .ok (.iload_n 1, 1) := by decide +kernel
theorem dd_M_text_1 : decode c_M_text 1 = .ok (.ifCond .ne 21, 3) := by decide +kernel
theorem dd_M_text_4 : decode c_M_text 4 = .ok (.aload_n 0, 1) := by decide +kernel
theorem dd_M_text_5 : decode c_M_text 5 = .ok (.invokevirtual 236, 3) := by decide +kernel
theorem dd_M_text_8 : decode c_M_text 8 = .ok (.iconst (-1), 1) := by decide +kernel
theorem dd_M_text_9 : decode c_M_text 9 = .ok (.if_icmp .ne 13, 3) := by decide +kernel
theorem dd_M_text_12 : decode c_M_text 12 = .ok (.aload_n 0, 1) := by decide +kernel
theorem dd_M_text_13 : decode c_M_text 13 = .ok (.iconst 0, 1) := by decide +kernel
theorem dd_M_text_14 : decode c_M_text 14 = .ok (.putfield 97, 3) := by decide +kernel
theorem dd_M_text_17 : decode c_M_text 17 = .ok (.aload_n 0, 1) := by decide +kernel
theorem dd_M_text_18 : decode c_M_text 18 = .ok (.invokevirtual 264, 3) := by decide +kernel
theorem dd_M_text_21 : decode c_M_text 21 = .ok (.ireturn, 1) := by decide +kernel
theorem dd_M_text_22 : decode c_M_text 22 = .ok (.iload_n 1, 1) := by decide +kernel
theorem dd_M_text_23 : decode c_M_text 23 = .ok (.iconst 1, 1) := by decide +kernel
theorem dd_M_text_24 : decode c_M_text 24 = .ok (.if_icmp .ne 45, 3) := by decide +kernel
theorem dd_M_text_27 : decode c_M_text 27 = .ok (.aload_n 0, 1) := by decide +kernel
theorem dd_M_text_28 : decode c_M_text 28 = .ok (.getfield 267, 3) := by decide +kernel
theorem dd_M_text_31 : decode c_M_text 31 = .ok (.iconst 4, 1) := by decide +kernel
theorem dd_M_text_32 : decode c_M_text 32 = .ok (.if_icmp .ge 37, 3) := by decide +kernel
theorem dd_M_text_35 : decode c_M_text 35 = .ok (.aload_n 0, 1) := by decide +kernel
theorem dd_M_text_36 : decode c_M_text 36 = .ok (.aload_n 0, 1) := by decide +kernel
theorem dd_M_text_37 : decode c_M_text 37 = .ok (.getfield 267, 3) := by decide +kernel
theorem dd_M_text_40 : decode c_M_text 40 = .ok (.invokevirtual 239, 3) := by decide +kernel
theorem dd_M_text_43 : decode c_M_text 43 = .ok (.iconst (-1), 1) := by decide +kernel
theorem dd_M_text_44 : decode c_M_text 44 = .ok (.if_icmp .ne 25, 3) := by decide +kernel
theorem dd_M_text_47 : decode c_M_text 47 = .ok (.aload_n 0, 1) := by decide +kernel
theorem dd_M_text_48 : decode c_M_text 48 = .ok (.iconst 0, 1) := by decide +kernel
theorem dd_M_text_49 : decode c_M_text 49 = .ok (.putfield 97, 3) := by decide +kernel
theorem dd_M_text_52 : decode c_M_text 52 = .ok (.aload_n 0, 1) := by decide +kernel
theorem dd_M_text_53 : decode c_M_text 53 = .ok (.dup, 1) := by decide +kernel
theorem dd_M_text_54 : decode c_M_text 54 = .ok (.getfield 267, 3) := by decide +kernel
theorem dd_M_text_57 : decode c_M_text 57 = .ok (.iconst 1, 1) := by decide +kernel
theorem dd_M_text_58 : decode c_M_text 58 = .ok (.iadd, 1) := by decide +kernel
theorem dd_M_text_59 : decode c_M_text 59 = .ok (.putfield 267, 3) := by decide +kernel
theorem dd_M_text_62 : decode c_M_text 62 = .ok (.aload_n 0, 1) := by decide +kernel
theorem dd_M_text_63 : decode c_M_text 63 = .ok (.getfield 267, 3) := by decide +kernel
theorem dd_M_text_66 : decode c_M_text 66 = .ok (.iconst 1, 1) := by decide +kernel
theorem dd_M_text_67 : decode c_M_text 67 = .ok (.isub, 1) := by decide +kernel
theorem dd_M_text_68 : decode c_M_text 68 = .ok (.ireturn, 1) := by decide +kernel
theorem dd_M_text_69 : decode c_M_text 69 = .ok (.iconst (-1), 1) := by decide +kernel
theorem dd_M_text_70 : decode c_M_text 70 = .ok (.ireturn, 1) := by decide +kernel
theorem dd_Coast_hasHouse_0 : decode c_Coast_hasHouse 0 = .ok (.iload_n 1, 1) := by decide +kernel
theorem dd_Coast_hasHouse_1 : decode c_Coast_hasHouse 1 = .ok (.ifCond .lt 15, 3) := by decide +kernel
theorem dd_Coast_hasHouse_4 : decode c_Coast_hasHouse 4 = .ok (.iload_n 1, 1) := by decide +kernel
theorem dd_Coast_hasHouse_5 : decode c_Coast_hasHouse 5 = .ok (.aload_n 0, 1) := by decide +kernel
theorem dd_Coast_hasHouse_6 : decode c_Coast_hasHouse 6 = .ok (.getfield 30, 3) := by decide +kernel
theorem dd_Coast_hasHouse_9 : decode c_Coast_hasHouse 9 = .ok (.if_icmp .ge 7, 3) := by decide +kernel
theorem dd_Coast_hasHouse_12 : decode c_Coast_hasHouse 12 = .ok (.iconst 1, 1) := by decide +kernel
theorem dd_Coast_hasHouse_13 : decode c_Coast_hasHouse 13 = .ok (.goto 4, 3) := by decide +kernel
theorem dd_Coast_hasHouse_16 : decode c_Coast_hasHouse 16 = .ok (.iconst 0, 1) := by decide +kernel
theorem dd_Coast_hasHouse_17 : decode c_Coast_hasHouse 17 = .ok (.ireturn, 1) := by decide +kernel
theorem dd_Stand_heardBits_0 : decode c_Stand_heardBits 0 = .ok (.iconst 0, 1) := by decide +kernel
theorem dd_Stand_heardBits_1 : decode c_Stand_heardBits 1 = .ok (.istore_n 2, 1) := by decide +kernel
theorem dd_Stand_heardBits_2 : decode c_Stand_heardBits 2 = .ok (.iconst 0, 1) := by decide +kernel
theorem dd_Stand_heardBits_3 : decode c_Stand_heardBits 3 = .ok (.istore_n 3, 1) := by decide +kernel
theorem dd_Stand_heardBits_4 : decode c_Stand_heardBits 4 = .ok (.iload_n 3, 1) := by decide +kernel
theorem dd_Stand_heardBits_5 : decode c_Stand_heardBits 5 = .ok (.bipush 6, 2) := by decide +kernel
theorem dd_Stand_heardBits_7 : decode c_Stand_heardBits 7 = .ok (.if_icmp .ge 29, 3) := by decide +kernel
theorem dd_Stand_heardBits_10 : decode c_Stand_heardBits 10 = .ok (.aload_n 0, 1) := by decide +kernel
theorem dd_Stand_heardBits_11 : decode c_Stand_heardBits 11 = .ok (.getfield 17, 3) := by decide +kernel
theorem dd_Stand_heardBits_14 : decode c_Stand_heardBits 14 = .ok (.iload_n 1, 1) := by decide +kernel
theorem dd_Stand_heardBits_15 : decode c_Stand_heardBits 15 = .ok (.bipush 6, 2) := by decide +kernel
theorem dd_Stand_heardBits_17 : decode c_Stand_heardBits 17 = .ok (.imul, 1) := by decide +kernel
theorem dd_Stand_heardBits_18 : decode c_Stand_heardBits 18 = .ok (.iload_n 3, 1) := by decide +kernel
theorem dd_Stand_heardBits_19 : decode c_Stand_heardBits 19 = .ok (.iadd, 1) := by decide +kernel
theorem dd_Stand_heardBits_20 : decode c_Stand_heardBits 20 = .ok (.iaload, 1) := by decide +kernel
theorem dd_Stand_heardBits_21 : decode c_Stand_heardBits 21 = .ok (.ifCond .le 9, 3) := by decide +kernel
theorem dd_Stand_heardBits_24 : decode c_Stand_heardBits 24 = .ok (.iload_n 2, 1) := by decide +kernel
theorem dd_Stand_heardBits_25 : decode c_Stand_heardBits 25 = .ok (.iconst 1, 1) := by decide +kernel
theorem dd_Stand_heardBits_26 : decode c_Stand_heardBits 26 = .ok (.iload_n 3, 1) := by decide +kernel
theorem dd_Stand_heardBits_27 : decode c_Stand_heardBits 27 = .ok (.ishl, 1) := by decide +kernel
theorem dd_Stand_heardBits_28 : decode c_Stand_heardBits 28 = .ok (.ior, 1) := by decide +kernel
theorem dd_Stand_heardBits_29 : decode c_Stand_heardBits 29 = .ok (.istore_n 2, 1) := by decide +kernel
theorem dd_Stand_heardBits_30 : decode c_Stand_heardBits 30 = .ok (.iinc 3 1, 3) := by decide +kernel
theorem dd_Stand_heardBits_33 : decode c_Stand_heardBits 33 = .ok (.goto (-29), 3) := by decide +kernel
theorem dd_Stand_heardBits_36 : decode c_Stand_heardBits 36 = .ok (.iload_n 2, 1) := by decide +kernel
theorem dd_Stand_heardBits_37 : decode c_Stand_heardBits 37 = .ok (.ireturn, 1) := by decide +kernel
theorem dd_W_house_0 : decode c_W_house 0 = .ok (.aload_n 0, 1) := by decide +kernel
theorem dd_W_house_1 : decode c_W_house 1 = .ok (.getfield 42, 3) := by decide +kernel
theorem dd_W_house_4 : decode c_W_house 4 = .ok (.iload_n 1, 1) := by decide +kernel
theorem dd_W_house_5 : decode c_W_house 5 = .ok (.invokevirtual 150, 3) := by decide +kernel
theorem dd_W_house_8 : decode c_W_house 8 = .ok (.ifCond .ne 5, 3) := by decide +kernel
theorem dd_W_house_11 : decode c_W_house 11 = .ok (.iconst (-1), 1) := by decide +kernel
theorem dd_W_house_12 : decode c_W_house 12 = .ok (.ireturn, 1) := by decide +kernel
theorem dd_W_house_13 : decode c_W_house 13 = .ok (.iload_n 2, 1) := by decide +kernel
theorem dd_W_house_14 : decode c_W_house 14 = .ok (.tableswitch 55 0 2 #[26, 35, 45], 26) := by decide +kernel
theorem dd_W_house_40 : decode c_W_house 40 = .ok (.aload_n 0, 1) := by decide +kernel
theorem dd_W_house_41 : decode c_W_house 41 = .ok (.getfield 49, 3) := by decide +kernel
theorem dd_W_house_44 : decode c_W_house 44 = .ok (.iload_n 1, 1) := by decide +kernel
theorem dd_W_house_45 : decode c_W_house 45 = .ok (.invokevirtual 154, 3) := by decide +kernel
theorem dd_W_house_48 : decode c_W_house 48 = .ok (.ireturn, 1) := by decide +kernel
theorem dd_W_house_49 : decode c_W_house 49 = .ok (.aload_n 0, 1) := by decide +kernel
theorem dd_W_house_50 : decode c_W_house 50 = .ok (.getfield 42, 3) := by decide +kernel
theorem dd_W_house_53 : decode c_W_house 53 = .ok (.getfield 157, 3) := by decide +kernel
theorem dd_W_house_56 : decode c_W_house 56 = .ok (.iload_n 1, 1) := by decide +kernel
theorem dd_W_house_57 : decode c_W_house 57 = .ok (.iaload, 1) := by decide +kernel
theorem dd_W_house_58 : decode c_W_house 58 = .ok (.ireturn, 1) := by decide +kernel
theorem dd_W_house_59 : decode c_W_house 59 = .ok (.aload_n 0, 1) := by decide +kernel
theorem dd_W_house_60 : decode c_W_house 60 = .ok (.getfield 42, 3) := by decide +kernel
theorem dd_W_house_63 : decode c_W_house 63 = .ok (.getfield 160, 3) := by decide +kernel
theorem dd_W_house_66 : decode c_W_house 66 = .ok (.iload_n 1, 1) := by decide +kernel
theorem dd_W_house_67 : decode c_W_house 67 = .ok (.iaload, 1) := by decide +kernel
theorem dd_W_house_68 : decode c_W_house 68 = .ok (.ireturn, 1) := by decide +kernel
theorem dd_W_house_69 : decode c_W_house 69 = .ok (.iconst (-1), 1) := by decide +kernel
theorem dd_W_house_70 : decode c_W_house 70 = .ok (.ireturn, 1) := by decide +kernel
theorem dd_M_isHouse_0 : decode c_M_isHouse 0 = .ok (.iload_n 1, 1) := by decide +kernel
theorem dd_M_isHouse_1 : decode c_M_isHouse 1 = .ok (.iconst 0, 1) := by decide +kernel
theorem dd_M_isHouse_2 : decode c_M_isHouse 2 = .ok (.aload_n 0, 1) := by decide +kernel
theorem dd_M_isHouse_3 : decode c_M_isHouse 3 = .ok (.getfield 242, 3) := by decide +kernel
theorem dd_M_isHouse_6 : decode c_M_isHouse 6 = .ok (.iconst 1, 1) := by decide +kernel
theorem dd_M_isHouse_7 : decode c_M_isHouse 7 = .ok (.isub, 1) := by decide +kernel
theorem dd_M_isHouse_8 : decode c_M_isHouse 8 = .ok (.invokestatic 205, 3) := by decide +kernel
theorem dd_M_isHouse_11 : decode c_M_isHouse 11 = .ok (.ireturn, 1) := by decide +kernel
theorem dd_M_heardOf_0 : decode c_M_heardOf 0 = .ok (.aload_n 0, 1) := by decide +kernel
theorem dd_M_heardOf_1 : decode c_M_heardOf 1 = .ok (.getfield 58, 3) := by decide +kernel
theorem dd_M_heardOf_4 : decode c_M_heardOf 4 = .ok (.iconst 0, 1) := by decide +kernel
theorem dd_M_heardOf_5 : decode c_M_heardOf 5 = .ok (.bipush 6, 2) := by decide +kernel
theorem dd_M_heardOf_7 : decode c_M_heardOf 7 = .ok (.iload_n 1, 1) := by decide +kernel
theorem dd_M_heardOf_8 : decode c_M_heardOf 8 = .ok (.imul, 1) := by decide +kernel
theorem dd_M_heardOf_9 : decode c_M_heardOf 9 = .ok (.iadd, 1) := by decide +kernel
theorem dd_M_heardOf_10 : decode c_M_heardOf 10 = .ok (.iload_n 2, 1) := by decide +kernel
theorem dd_M_heardOf_11 : decode c_M_heardOf 11 = .ok (.iadd, 1) := by decide +kernel
theorem dd_M_heardOf_12 : decode c_M_heardOf 12 = .ok (.iaload, 1) := by decide +kernel
theorem dd_M_heardOf_13 : decode c_M_heardOf 13 = .ok (.ireturn, 1) := by decide +kernel
theorem dd_M_heardSet_0 : decode c_M_heardSet 0 = .ok (.iconst 0, 1) := by decide +kernel
theorem dd_M_heardSet_1 : decode c_M_heardSet 1 = .ok (.istore_n 2, 1) := by decide +kernel
theorem dd_M_heardSet_2 : decode c_M_heardSet 2 = .ok (.iconst 0, 1) := by decide +kernel
theorem dd_M_heardSet_3 : decode c_M_heardSet 3 = .ok (.istore_n 3, 1) := by decide +kernel
theorem dd_M_heardSet_4 : decode c_M_heardSet 4 = .ok (.iload_n 3, 1) := by decide +kernel
theorem dd_M_heardSet_5 : decode c_M_heardSet 5 = .ok (.aload_n 0, 1) := by decide +kernel
theorem dd_M_heardSet_6 : decode c_M_heardSet 6 = .ok (.getfield 245, 3) := by decide +kernel
theorem dd_M_heardSet_9 : decode c_M_heardSet 9 = .ok (.if_icmp .ge 28, 3) := by decide +kernel
theorem dd_M_heardSet_12 : decode c_M_heardSet 12 = .ok (.iload_n 2, 1) := by decide +kernel
theorem dd_M_heardSet_13 : decode c_M_heardSet 13 = .ok (.aload_n 0, 1) := by decide +kernel
theorem dd_M_heardSet_14 : decode c_M_heardSet 14 = .ok (.iload_n 1, 1) := by decide +kernel
theorem dd_M_heardSet_15 : decode c_M_heardSet 15 = .ok (.iload_n 3, 1) := by decide +kernel
theorem dd_M_heardSet_16 : decode c_M_heardSet 16 = .ok (.invokevirtual 277, 3) := by decide +kernel
theorem dd_M_heardSet_19 : decode c_M_heardSet 19 = .ok (.ifCond .le 9, 3) := by decide +kernel
theorem dd_M_heardSet_22 : decode c_M_heardSet 22 = .ok (.iconst 1, 1) := by decide +kernel
theorem dd_M_heardSet_23 : decode c_M_heardSet 23 = .ok (.iload_n 3, 1) := by decide +kernel
theorem dd_M_heardSet_24 : decode c_M_heardSet 24 = .ok (.ishl, 1) := by decide +kernel
theorem dd_M_heardSet_25 : decode c_M_heardSet 25 = .ok (.goto 4, 3) := by decide +kernel
theorem dd_M_heardSet_28 : decode c_M_heardSet 28 = .ok (.iconst 0, 1) := by decide +kernel
theorem dd_M_heardSet_29 : decode c_M_heardSet 29 = .ok (.ior, 1) := by decide +kernel
theorem dd_M_heardSet_30 : decode c_M_heardSet 30 = .ok (.istore_n 2, 1) := by decide +kernel
theorem dd_M_heardSet_31 : decode c_M_heardSet 31 = .ok (.iinc 3 1, 3) := by decide +kernel
theorem dd_M_heardSet_34 : decode c_M_heardSet 34 = .ok (.goto (-30), 3) := by decide +kernel
theorem dd_M_heardSet_37 : decode c_M_heardSet 37 = .ok (.iload_n 2, 1) := by decide +kernel
theorem dd_M_heardSet_38 : decode c_M_heardSet 38 = .ok (.ireturn, 1) := by decide +kernel
theorem dd_M_house_0 : decode c_M_house 0 = .ok (.aload_n 0, 1) := by decide +kernel
theorem dd_M_house_1 : decode c_M_house 1 = .ok (.iload_n 1, 1) := by decide +kernel
theorem dd_M_house_2 : decode c_M_house 2 = .ok (.invokevirtual 300, 3) := by decide +kernel
theorem dd_M_house_5 : decode c_M_house 5 = .ok (.ifCond .eq 12, 3) := by decide +kernel
theorem dd_M_house_8 : decode c_M_house 8 = .ok (.iload_n 2, 1) := by decide +kernel
theorem dd_M_house_9 : decode c_M_house 9 = .ok (.iconst 0, 1) := by decide +kernel
theorem dd_M_house_10 : decode c_M_house 10 = .ok (.iconst 2, 1) := by decide +kernel
theorem dd_M_house_11 : decode c_M_house 11 = .ok (.invokestatic 205, 3) := by decide +kernel
theorem dd_M_house_14 : decode c_M_house 14 = .ok (.ifCond .ne 7, 3) := by decide +kernel
theorem dd_M_house_17 : decode c_M_house 17 = .ok (.iconst (-1), 1) := by decide +kernel
theorem dd_M_house_18 : decode c_M_house 18 = .ok (.goto 21, 3) := by decide +kernel
theorem dd_M_house_21 : decode c_M_house 21 = .ok (.iload_n 2, 1) := by decide +kernel
theorem dd_M_house_22 : decode c_M_house 22 = .ok (.ifCond .ne 11, 3) := by decide +kernel
theorem dd_M_house_25 : decode c_M_house 25 = .ok (.aload_n 0, 1) := by decide +kernel
theorem dd_M_house_26 : decode c_M_house 26 = .ok (.iload_n 1, 1) := by decide +kernel
theorem dd_M_house_27 : decode c_M_house 27 = .ok (.invokevirtual 303, 3) := by decide +kernel
theorem dd_M_house_30 : decode c_M_house 30 = .ok (.goto 9, 3) := by decide +kernel
theorem dd_M_house_33 : decode c_M_house 33 = .ok (.aload_n 0, 1) := by decide +kernel
theorem dd_M_house_34 : decode c_M_house 34 = .ok (.iload_n 1, 1) := by decide +kernel
theorem dd_M_house_35 : decode c_M_house 35 = .ok (.iload_n 2, 1) := by decide +kernel
theorem dd_M_house_36 : decode c_M_house 36 = .ok (.invokevirtual 251, 3) := by decide +kernel
theorem dd_M_house_39 : decode c_M_house 39 = .ok (.ireturn, 1) := by decide +kernel
theorem dd_M_isTale_0 : decode c_M_isTale 0 = .ok (.iload_n 1, 1) := by decide +kernel
theorem dd_M_isTale_1 : decode c_M_isTale 1 = .ok (.iconst 0, 1) := by decide +kernel
theorem dd_M_isTale_2 : decode c_M_isTale 2 = .ok (.aload_n 0, 1) := by decide +kernel
theorem dd_M_isTale_3 : decode c_M_isTale 3 = .ok (.getfield 245, 3) := by decide +kernel
theorem dd_M_isTale_6 : decode c_M_isTale 6 = .ok (.iconst 1, 1) := by decide +kernel
theorem dd_M_isTale_7 : decode c_M_isTale 7 = .ok (.isub, 1) := by decide +kernel
theorem dd_M_isTale_8 : decode c_M_isTale 8 = .ok (.invokestatic 205, 3) := by decide +kernel
theorem dd_M_isTale_11 : decode c_M_isTale 11 = .ok (.ireturn, 1) := by decide +kernel
theorem dd_M_owns_0 : decode c_M_owns 0 = .ok (.aload_n 0, 1) := by decide +kernel
theorem dd_M_owns_1 : decode c_M_owns 1 = .ok (.getfield 58, 3) := by decide +kernel
theorem dd_M_owns_4 : decode c_M_owns 4 = .ok (.bipush 43, 2) := by decide +kernel
theorem dd_M_owns_6 : decode c_M_owns 6 = .ok (.iaload, 1) := by decide +kernel
theorem dd_M_owns_7 : decode c_M_owns 7 = .ok (.iload_n 1, 1) := by decide +kernel
theorem dd_M_owns_8 : decode c_M_owns 8 = .ok (.invokestatic 216, 3) := by decide +kernel
theorem dd_M_owns_11 : decode c_M_owns 11 = .ok (.ireturn, 1) := by decide +kernel
theorem dd_M_tale_0 : decode c_M_tale 0 = .ok (.aload_n 0, 1) := by decide +kernel
theorem dd_M_tale_1 : decode c_M_tale 1 = .ok (.aload_n 0, 1) := by decide +kernel
theorem dd_M_tale_2 : decode c_M_tale 2 = .ok (.iload_n 1, 1) := by decide +kernel
theorem dd_M_tale_3 : decode c_M_tale 3 = .ok (.invokevirtual 306, 3) := by decide +kernel
theorem dd_M_tale_6 : decode c_M_tale 6 = .ok (.ifCond .eq 16, 3) := by decide +kernel
theorem dd_M_tale_9 : decode c_M_tale 9 = .ok (.iload_n 2, 1) := by decide +kernel
theorem dd_M_tale_10 : decode c_M_tale 10 = .ok (.iconst 0, 1) := by decide +kernel
theorem dd_M_tale_11 : decode c_M_tale 11 = .ok (.iconst 3, 1) := by decide +kernel
theorem dd_M_tale_12 : decode c_M_tale 12 = .ok (.invokestatic 205, 3) := by decide +kernel
theorem dd_M_tale_15 : decode c_M_tale 15 = .ok (.ifCond .eq 7, 3) := by decide +kernel
theorem dd_M_tale_18 : decode c_M_tale 18 = .ok (.iconst 0, 1) := by decide +kernel
theorem dd_M_tale_19 : decode c_M_tale 19 = .ok (.goto 4, 3) := by decide +kernel
theorem dd_M_tale_22 : decode c_M_tale 22 = .ok (.iconst 1, 1) := by decide +kernel
theorem dd_M_tale_23 : decode c_M_tale 23 = .ok (.putfield 90, 3) := by decide +kernel
theorem dd_M_tale_26 : decode c_M_tale 26 = .ok (.aload_n 0, 1) := by decide +kernel
theorem dd_M_tale_27 : decode c_M_tale 27 = .ok (.getfield 90, 3) := by decide +kernel
theorem dd_M_tale_30 : decode c_M_tale 30 = .ok (.iconst 1, 1) := by decide +kernel
theorem dd_M_tale_31 : decode c_M_tale 31 = .ok (.if_icmp .ne 5, 3) := by decide +kernel
theorem dd_M_tale_34 : decode c_M_tale 34 = .ok (.iconst 0, 1) := by decide +kernel
theorem dd_M_tale_35 : decode c_M_tale 35 = .ok (.ireturn, 1) := by decide +kernel
theorem dd_M_tale_36 : decode c_M_tale 36 = .ok (.iload_n 2, 1) := by decide +kernel
theorem dd_M_tale_37 : decode c_M_tale 37 = .ok (.lookupswitch 51 #[(1, 27), (3, 37)], 27) := by decide +kernel
theorem dd_M_tale_64 : decode c_M_tale 64 = .ok (.aload_n 0, 1) := by decide +kernel
theorem dd_M_tale_65 : decode c_M_tale 65 = .ok (.getfield 58, 3) := by decide +kernel
theorem dd_M_tale_68 : decode c_M_tale 68 = .ok (.bipush 36, 2) := by decide +kernel
theorem dd_M_tale_70 : decode c_M_tale 70 = .ok (.iload_n 1, 1) := by decide +kernel
theorem dd_M_tale_71 : decode c_M_tale 71 = .ok (.iadd, 1) := by decide +kernel
theorem dd_M_tale_72 : decode c_M_tale 72 = .ok (.iaload, 1) := by decide +kernel
theorem dd_M_tale_73 : decode c_M_tale 73 = .ok (.ireturn, 1) := by decide +kernel
theorem dd_M_tale_74 : decode c_M_tale 74 = .ok (.aload_n 0, 1) := by decide +kernel
theorem dd_M_tale_75 : decode c_M_tale 75 = .ok (.iload_n 1, 1) := by decide +kernel
theorem dd_M_tale_76 : decode c_M_tale 76 = .ok (.invokevirtual 309, 3) := by decide +kernel
theorem dd_M_tale_79 : decode c_M_tale 79 = .ok (.ifCond .eq 7, 3) := by decide +kernel
theorem dd_M_tale_82 : decode c_M_tale 82 = .ok (.iconst 1, 1) := by decide +kernel
theorem dd_M_tale_83 : decode c_M_tale 83 = .ok (.goto 4, 3) := by decide +kernel
theorem dd_M_tale_86 : decode c_M_tale 86 = .ok (.iconst 0, 1) := by decide +kernel
theorem dd_M_tale_87 : decode c_M_tale 87 = .ok (.ireturn, 1) := by decide +kernel
theorem dd_M_tale_88 : decode c_M_tale 88 = .ok (.aload_n 0, 1) := by decide +kernel
theorem dd_M_tale_89 : decode c_M_tale 89 = .ok (.iload_n 1, 1) := by decide +kernel
theorem dd_M_tale_90 : decode c_M_tale 90 = .ok (.iload_n 2, 1) := by decide +kernel
theorem dd_M_tale_91 : decode c_M_tale 91 = .ok (.invokevirtual 248, 3) := by decide +kernel
theorem dd_M_tale_94 : decode c_M_tale 94 = .ok (.ireturn, 1) := by decide +kernel
theorem dd_M_thrown_0 : decode c_M_thrown 0 = .ok (.aload_n 0, 1) := by decide +kernel
theorem dd_M_thrown_1 : decode c_M_thrown 1 = .ok (.getfield 90, 3) := by decide +kernel
theorem dd_M_thrown_4 : decode c_M_thrown 4 = .ok (.ireturn, 1) := by decide +kernel
theorem dd_Coast_hasTale_0 : decode c_Coast_hasTale 0 = .ok (.iload_n 1, 1) := by decide +kernel
theorem dd_Coast_hasTale_1 : decode c_Coast_hasTale 1 = .ok (.ifCond .lt 15, 3) := by decide +kernel
theorem dd_Coast_hasTale_4 : decode c_Coast_hasTale 4 = .ok (.iload_n 1, 1) := by decide +kernel
theorem dd_Coast_hasTale_5 : decode c_Coast_hasTale 5 = .ok (.aload_n 0, 1) := by decide +kernel
theorem dd_Coast_hasTale_6 : decode c_Coast_hasTale 6 = .ok (.getfield 34, 3) := by decide +kernel
theorem dd_Coast_hasTale_9 : decode c_Coast_hasTale 9 = .ok (.if_icmp .ge 7, 3) := by decide +kernel
theorem dd_Coast_hasTale_12 : decode c_Coast_hasTale 12 = .ok (.iconst 1, 1) := by decide +kernel
theorem dd_Coast_hasTale_13 : decode c_Coast_hasTale 13 = .ok (.goto 4, 3) := by decide +kernel
theorem dd_Coast_hasTale_16 : decode c_Coast_hasTale 16 = .ok (.iconst 0, 1) := by decide +kernel
theorem dd_Coast_hasTale_17 : decode c_Coast_hasTale 17 = .ok (.ireturn, 1) := by decide +kernel
theorem dd_Coast_hasBoth_0 : decode c_Coast_hasBoth 0 = .ok (.aload_n 0, 1) := by decide +kernel
theorem dd_Coast_hasBoth_1 : decode c_Coast_hasBoth 1 = .ok (.iload_n 1, 1) := by decide +kernel
theorem dd_Coast_hasBoth_2 : decode c_Coast_hasBoth 2 = .ok (.invokevirtual 37, 3) := by decide +kernel
theorem dd_Coast_hasBoth_5 : decode c_Coast_hasBoth 5 = .ok (.ifCond .eq 15, 3) := by decide +kernel
theorem dd_Coast_hasBoth_8 : decode c_Coast_hasBoth 8 = .ok (.aload_n 0, 1) := by decide +kernel
theorem dd_Coast_hasBoth_9 : decode c_Coast_hasBoth 9 = .ok (.iload_n 2, 1) := by decide +kernel
theorem dd_Coast_hasBoth_10 : decode c_Coast_hasBoth 10 = .ok (.invokevirtual 41, 3) := by decide +kernel
theorem dd_Coast_hasBoth_13 : decode c_Coast_hasBoth 13 = .ok (.ifCond .eq 7, 3) := by decide +kernel
theorem dd_Coast_hasBoth_16 : decode c_Coast_hasBoth 16 = .ok (.iconst 1, 1) := by decide +kernel
theorem dd_Coast_hasBoth_17 : decode c_Coast_hasBoth 17 = .ok (.goto 4, 3) := by decide +kernel
theorem dd_Coast_hasBoth_20 : decode c_Coast_hasBoth 20 = .ok (.iconst 0, 1) := by decide +kernel
theorem dd_Coast_hasBoth_21 : decode c_Coast_hasBoth 21 = .ok (.ireturn, 1) := by decide +kernel
theorem dd_W_heard_0 : decode c_W_heard 0 = .ok (.aload_n 0, 1) := by decide +kernel
theorem dd_W_heard_1 : decode c_W_heard 1 = .ok (.getfield 42, 3) := by decide +kernel
theorem dd_W_heard_4 : decode c_W_heard 4 = .ok (.iload_n 1, 1) := by decide +kernel
theorem dd_W_heard_5 : decode c_W_heard 5 = .ok (.iload_n 2, 1) := by decide +kernel
theorem dd_W_heard_6 : decode c_W_heard 6 = .ok (.invokevirtual 181, 3) := by decide +kernel
theorem dd_W_heard_9 : decode c_W_heard 9 = .ok (.ifCond .eq 20, 3) := by decide +kernel
theorem dd_W_heard_12 : decode c_W_heard 12 = .ok (.aload_n 0, 1) := by decide +kernel
theorem dd_W_heard_13 : decode c_W_heard 13 = .ok (.getfield 49, 3) := by decide +kernel
theorem dd_W_heard_16 : decode c_W_heard 16 = .ok (.getfield 185, 3) := by decide +kernel
theorem dd_W_heard_19 : decode c_W_heard 19 = .ok (.iload_n 1, 1) := by decide +kernel
theorem dd_W_heard_20 : decode c_W_heard 20 = .ok (.bipush 6, 2) := by decide +kernel
theorem dd_W_heard_22 : decode c_W_heard 22 = .ok (.imul, 1) := by decide +kernel
theorem dd_W_heard_23 : decode c_W_heard 23 = .ok (.iload_n 2, 1) := by decide +kernel
theorem dd_W_heard_24 : decode c_W_heard 24 = .ok (.iadd, 1) := by decide +kernel
theorem dd_W_heard_25 : decode c_W_heard 25 = .ok (.iaload, 1) := by decide +kernel
theorem dd_W_heard_26 : decode c_W_heard 26 = .ok (.goto 4, 3) := by decide +kernel
theorem dd_W_heard_29 : decode c_W_heard 29 = .ok (.iconst (-1), 1) := by decide +kernel
theorem dd_W_heard_30 : decode c_W_heard 30 = .ok (.ireturn, 1) := by decide +kernel
theorem dd_M_heard_0 : decode c_M_heard 0 = .ok (.aload_n 0, 1) := by decide +kernel
theorem dd_M_heard_1 : decode c_M_heard 1 = .ok (.iload_n 1, 1) := by decide +kernel
theorem dd_M_heard_2 : decode c_M_heard 2 = .ok (.invokevirtual 300, 3) := by decide +kernel
theorem dd_M_heard_5 : decode c_M_heard 5 = .ok (.ifCond .eq 20, 3) := by decide +kernel
theorem dd_M_heard_8 : decode c_M_heard 8 = .ok (.aload_n 0, 1) := by decide +kernel
theorem dd_M_heard_9 : decode c_M_heard 9 = .ok (.iload_n 2, 1) := by decide +kernel
theorem dd_M_heard_10 : decode c_M_heard 10 = .ok (.invokevirtual 306, 3) := by decide +kernel
theorem dd_M_heard_13 : decode c_M_heard 13 = .ok (.ifCond .eq 12, 3) := by decide +kernel
theorem dd_M_heard_16 : decode c_M_heard 16 = .ok (.aload_n 0, 1) := by decide +kernel
theorem dd_M_heard_17 : decode c_M_heard 17 = .ok (.iload_n 1, 1) := by decide +kernel
theorem dd_M_heard_18 : decode c_M_heard 18 = .ok (.iload_n 2, 1) := by decide +kernel
theorem dd_M_heard_19 : decode c_M_heard 19 = .ok (.invokevirtual 277, 3) := by decide +kernel
theorem dd_M_heard_22 : decode c_M_heard 22 = .ok (.goto 4, 3) := by decide +kernel
theorem dd_M_heard_25 : decode c_M_heard 25 = .ok (.iconst (-1), 1) := by decide +kernel
theorem dd_M_heard_26 : decode c_M_heard 26 = .ok (.ireturn, 1) := by decide +kernel
theorem dd_Laws_held_0 : decode c_Laws_held 0 = .ok (.lload_n 0, 1) := by decide +kernel
theorem dd_Laws_held_1 : decode c_Laws_held 1 = .ok (.ldc2_w 53, 3) := by decide +kernel
theorem dd_Laws_held_4 : decode c_Laws_held 4 = .ok (.lcmp, 1) := by decide +kernel
theorem dd_Laws_held_5 : decode c_Laws_held 5 = .ok (.ifCond .le 6, 3) := by decide +kernel
theorem dd_Laws_held_8 : decode c_Laws_held 8 = .ok (.ldc 55, 2) := by decide +kernel
theorem dd_Laws_held_10 : decode c_Laws_held 10 = .ok (.ireturn, 1) := by decide +kernel
theorem dd_Laws_held_11 : decode c_Laws_held 11 = .ok (.lload_n 0, 1) := by decide +kernel
theorem dd_Laws_held_12 : decode c_Laws_held 12 = .ok (.ldc2_w 56, 3) := by decide +kernel
theorem dd_Laws_held_15 : decode c_Laws_held 15 = .ok (.lcmp, 1) := by decide +kernel
theorem dd_Laws_held_16 : decode c_Laws_held 16 = .ok (.ifCond .ge 8, 3) := by decide +kernel
theorem dd_Laws_held_19 : decode c_Laws_held 19 = .ok (.ldc 58, 2) := by decide +kernel
theorem dd_Laws_held_21 : decode c_Laws_held 21 = .ok (.goto 5, 3) := by decide +kernel
theorem dd_Laws_held_24 : decode c_Laws_held 24 = .ok (.lload_n 0, 1) := by decide +kernel
theorem dd_Laws_held_25 : decode c_Laws_held 25 = .ok (.l2i, 1) := by decide +kernel
theorem dd_Laws_held_26 : decode c_Laws_held 26 = .ok (.ireturn, 1) := by decide +kernel
theorem dd_Laws_joined_0 : decode c_Laws_joined 0 = .ok (.iload_n 0, 1) := by decide +kernel
theorem dd_Laws_joined_1 : decode c_Laws_joined 1 = .ok (.tableswitch 189 38 62 #[185, 189, 189, 189, 131, 115, 189, 123, 189, 140, 189, 189, 189, 189, 189, 189, 189, 189, 189, 189, 189, 189, 163, 152, 174], 115) := by decide +kernel
theorem dd_Laws_joined_116 : decode c_Laws_joined 116 = .ok (.iload_n 1, 1) := by decide +kernel
theorem dd_Laws_joined_117 : decode c_Laws_joined 117 = .ok (.iload_n 2, 1) := by decide +kernel
theorem dd_Laws_joined_118 : decode c_Laws_joined 118 = .ok (.iadd, 1) := by decide +kernel
theorem dd_Laws_joined_119 : decode c_Laws_joined 119 = .ok (.i2l, 1) := by decide +kernel
theorem dd_Laws_joined_120 : decode c_Laws_joined 120 = .ok (.invokestatic 49, 3) := by decide +kernel
theorem dd_Laws_joined_123 : decode c_Laws_joined 123 = .ok (.ireturn, 1) := by decide +kernel
theorem dd_Laws_joined_124 : decode c_Laws_joined 124 = .ok (.iload_n 1, 1) := by decide +kernel
theorem dd_Laws_joined_125 : decode c_Laws_joined 125 = .ok (.iload_n 2, 1) := by decide +kernel
theorem dd_Laws_joined_126 : decode c_Laws_joined 126 = .ok (.isub, 1) := by decide +kernel
theorem dd_Laws_joined_127 : decode c_Laws_joined 127 = .ok (.i2l, 1) := by decide +kernel
theorem dd_Laws_joined_128 : decode c_Laws_joined 128 = .ok (.invokestatic 49, 3) := by decide +kernel
theorem dd_Laws_joined_131 : decode c_Laws_joined 131 = .ok (.ireturn, 1) := by decide +kernel
theorem dd_Laws_joined_132 : decode c_Laws_joined 132 = .ok (.iload_n 1, 1) := by decide +kernel
theorem dd_Laws_joined_133 : decode c_Laws_joined 133 = .ok (.i2l, 1) := by decide +kernel
theorem dd_Laws_joined_134 : decode c_Laws_joined 134 = .ok (.iload_n 2, 1) := by decide +kernel
theorem dd_Laws_joined_135 : decode c_Laws_joined 135 = .ok (.i2l, 1) := by decide +kernel
theorem dd_Laws_joined_136 : decode c_Laws_joined 136 = .ok (.lmul, 1) := by decide +kernel
theorem dd_Laws_joined_137 : decode c_Laws_joined 137 = .ok (.invokestatic 49, 3) := by decide +kernel
theorem dd_Laws_joined_140 : decode c_Laws_joined 140 = .ok (.ireturn, 1) := by decide +kernel
theorem dd_Laws_joined_141 : decode c_Laws_joined 141 = .ok (.iload_n 2, 1) := by decide +kernel
theorem dd_Laws_joined_142 : decode c_Laws_joined 142 = .ok (.ifCond .ne 7, 3) := by decide +kernel
theorem dd_Laws_joined_145 : decode c_Laws_joined 145 = .ok (.iconst 0, 1) := by decide +kernel
theorem dd_Laws_joined_146 : decode c_Laws_joined 146 = .ok (.goto 6, 3) := by decide +kernel
theorem dd_Laws_joined_149 : decode c_Laws_joined 149 = .ok (.iload_n 1, 1) := by decide +kernel
theorem dd_Laws_joined_150 : decode c_Laws_joined 150 = .ok (.iload_n 2, 1) := by decide +kernel
theorem dd_Laws_joined_151 : decode c_Laws_joined 151 = .ok (.idiv, 1) := by decide +kernel
theorem dd_Laws_joined_152 : decode c_Laws_joined 152 = .ok (.ireturn, 1) := by decide +kernel
theorem dd_Laws_joined_153 : decode c_Laws_joined 153 = .ok (.iload_n 1, 1) := by decide +kernel
theorem dd_Laws_joined_154 : decode c_Laws_joined 154 = .ok (.iload_n 2, 1) := by decide +kernel
theorem dd_Laws_joined_155 : decode c_Laws_joined 155 = .ok (.if_icmp .ne 7, 3) := by decide +kernel
theorem dd_Laws_joined_158 : decode c_Laws_joined 158 = .ok (.iconst 1, 1) := by decide +kernel
theorem dd_Laws_joined_159 : decode c_Laws_joined 159 = .ok (.goto 4, 3) := by decide +kernel
theorem dd_Laws_joined_162 : decode c_Laws_joined 162 = .ok (.iconst 0, 1) := by decide +kernel
theorem dd_Laws_joined_163 : decode c_Laws_joined 163 = .ok (.ireturn, 1) := by decide +kernel
theorem dd_Laws_joined_164 : decode c_Laws_joined 164 = .ok (.iload_n 1, 1) := by decide +kernel
theorem dd_Laws_joined_165 : decode c_Laws_joined 165 = .ok (.iload_n 2, 1) := by decide +kernel
theorem dd_Laws_joined_166 : decode c_Laws_joined 166 = .ok (.if_icmp .ge 7, 3) := by decide +kernel
theorem dd_Laws_joined_169 : decode c_Laws_joined 169 = .ok (.iconst 1, 1) := by decide +kernel
theorem dd_Laws_joined_170 : decode c_Laws_joined 170 = .ok (.goto 4, 3) := by decide +kernel
theorem dd_Laws_joined_173 : decode c_Laws_joined 173 = .ok (.iconst 0, 1) := by decide +kernel
theorem dd_Laws_joined_174 : decode c_Laws_joined 174 = .ok (.ireturn, 1) := by decide +kernel
theorem dd_Laws_joined_175 : decode c_Laws_joined 175 = .ok (.iload_n 1, 1) := by decide +kernel
theorem dd_Laws_joined_176 : decode c_Laws_joined 176 = .ok (.iload_n 2, 1) := by decide +kernel
theorem dd_Laws_joined_177 : decode c_Laws_joined 177 = .ok (.if_icmp .le 7, 3) := by decide +kernel
theorem dd_Laws_joined_180 : decode c_Laws_joined 180 = .ok (.iconst 1, 1) := by decide +kernel
theorem dd_Laws_joined_181 : decode c_Laws_joined 181 = .ok (.goto 4, 3) := by decide +kernel
theorem dd_Laws_joined_184 : decode c_Laws_joined 184 = .ok (.iconst 0, 1) := by decide +kernel
theorem dd_Laws_joined_185 : decode c_Laws_joined 185 = .ok (.ireturn, 1) := by decide +kernel
theorem dd_Laws_joined_186 : decode c_Laws_joined 186 = .ok (.iload_n 1, 1) := by decide +kernel
theorem dd_Laws_joined_187 : decode c_Laws_joined 187 = .ok (.iload_n 2, 1) := by decide +kernel
theorem dd_Laws_joined_188 : decode c_Laws_joined 188 = .ok (.iand, 1) := by decide +kernel
theorem dd_Laws_joined_189 : decode c_Laws_joined 189 = .ok (.ireturn, 1) := by decide +kernel
theorem dd_Laws_joined_190 : decode c_Laws_joined 190 = .ok (.iload_n 1, 1) := by decide +kernel
theorem dd_Laws_joined_191 : decode c_Laws_joined 191 = .ok (.iload_n 2, 1) := by decide +kernel
theorem dd_Laws_joined_192 : decode c_Laws_joined 192 = .ok (.ior, 1) := by decide +kernel
theorem dd_Laws_joined_193 : decode c_Laws_joined 193 = .ok (.ireturn, 1) := by decide +kernel
theorem dd_Laws_operand_0 : decode c_Laws_operand 0 = .ok (.iload_n 1, 1) := by decide +kernel
theorem dd_Laws_operand_1 : decode c_Laws_operand 1 = .ok (.bipush 48, 2) := by decide +kernel
theorem dd_Laws_operand_3 : decode c_Laws_operand 3 = .ok (.if_icmp .ne 5, 3) := by decide +kernel
theorem dd_Laws_operand_6 : decode c_Laws_operand 6 = .ok (.iload_n 2, 1) := by decide +kernel
theorem dd_Laws_operand_7 : decode c_Laws_operand 7 = .ok (.ireturn, 1) := by decide +kernel
theorem dd_Laws_operand_8 : decode c_Laws_operand 8 = .ok (.iload_n 2, 1) := by decide +kernel
theorem dd_Laws_operand_9 : decode c_Laws_operand 9 = .ok (.ifCond .lt 18, 3) := by decide +kernel
theorem dd_Laws_operand_12 : decode c_Laws_operand 12 = .ok (.iload_n 2, 1) := by decide +kernel
theorem dd_Laws_operand_13 : decode c_Laws_operand 13 = .ok (.bipush 6, 2) := by decide +kernel
theorem dd_Laws_operand_15 : decode c_Laws_operand 15 = .ok (.if_icmp .ge 12, 3) := by decide +kernel
theorem dd_Laws_operand_18 : decode c_Laws_operand 18 = .ok (.aload_n 0, 1) := by decide +kernel
theorem dd_Laws_operand_19 : decode c_Laws_operand 19 = .ok (.getfield 15, 3) := by decide +kernel
theorem dd_Laws_operand_22 : decode c_Laws_operand 22 = .ok (.iload_n 2, 1) := by decide +kernel
theorem dd_Laws_operand_23 : decode c_Laws_operand 23 = .ok (.iaload, 1) := by decide +kernel
theorem dd_Laws_operand_24 : decode c_Laws_operand 24 = .ok (.goto 4, 3) := by decide +kernel
theorem dd_Laws_operand_27 : decode c_Laws_operand 27 = .ok (.iconst 0, 1) := by decide +kernel
theorem dd_Laws_operand_28 : decode c_Laws_operand 28 = .ok (.ireturn, 1) := by decide +kernel
theorem dd_Laws_worth_0 : decode c_Laws_worth 0 = .ok (.aload_n 0, 1) := by decide +kernel
theorem dd_Laws_worth_1 : decode c_Laws_worth 1 = .ok (.getfield 9, 3) := by decide +kernel
theorem dd_Laws_worth_4 : decode c_Laws_worth 4 = .ok (.ifCond .lt 14, 3) := by decide +kernel
theorem dd_Laws_worth_7 : decode c_Laws_worth 7 = .ok (.aload_n 0, 1) := by decide +kernel
theorem dd_Laws_worth_8 : decode c_Laws_worth 8 = .ok (.getfield 9, 3) := by decide +kernel
theorem dd_Laws_worth_11 : decode c_Laws_worth 11 = .ok (.aload_n 0, 1) := by decide +kernel
theorem dd_Laws_worth_12 : decode c_Laws_worth 12 = .ok (.getfield 30, 3) := by decide +kernel
theorem dd_Laws_worth_15 : decode c_Laws_worth 15 = .ok (.if_icmp .lt 5, 3) := by decide +kernel
theorem dd_Laws_worth_18 : decode c_Laws_worth 18 = .ok (.iconst 0, 1) := by decide +kernel
theorem dd_Laws_worth_19 : decode c_Laws_worth 19 = .ok (.ireturn, 1) := by decide +kernel
theorem dd_Laws_worth_20 : decode c_Laws_worth 20 = .ok (.aload_n 0, 1) := by decide +kernel
theorem dd_Laws_worth_21 : decode c_Laws_worth 21 = .ok (.getfield 9, 3) := by decide +kernel
theorem dd_Laws_worth_24 : decode c_Laws_worth 24 = .ok (.sipush 240, 3) := by decide +kernel
theorem dd_Laws_worth_27 : decode c_Laws_worth 27 = .ok (.imul, 1) := by decide +kernel
theorem dd_Laws_worth_28 : decode c_Laws_worth 28 = .ok (.istore_n 1, 1) := by decide +kernel
theorem dd_Laws_worth_29 : decode c_Laws_worth 29 = .ok (.iload_n 1, 1) := by decide +kernel
theorem dd_Laws_worth_30 : decode c_Laws_worth 30 = .ok (.aload_n 0, 1) := by decide +kernel
theorem dd_Laws_worth_31 : decode c_Laws_worth 31 = .ok (.getfield 24, 3) := by decide +kernel
theorem dd_Laws_worth_34 : decode c_Laws_worth 34 = .ok (.aload_n 0, 1) := by decide +kernel
theorem dd_Laws_worth_35 : decode c_Laws_worth 35 = .ok (.getfield 9, 3) := by decide +kernel
theorem dd_Laws_worth_38 : decode c_Laws_worth 38 = .ok (.iaload, 1) := by decide +kernel
theorem dd_Laws_worth_39 : decode c_Laws_worth 39 = .ok (.iadd, 1) := by decide +kernel
theorem dd_Laws_worth_40 : decode c_Laws_worth 40 = .ok (.istore_n 2, 1) := by decide +kernel
theorem dd_Laws_worth_41 : decode c_Laws_worth 41 = .ok (.iconst 0, 1) := by decide +kernel
theorem dd_Laws_worth_42 : decode c_Laws_worth 42 = .ok (.istore_n 3, 1) := by decide +kernel
theorem dd_Laws_worth_43 : decode c_Laws_worth 43 = .ok (.iconst 0, 1) := by decide +kernel
theorem dd_Laws_worth_44 : decode c_Laws_worth 44 = .ok (.istore 4, 2) := by decide +kernel
theorem dd_Laws_worth_46 : decode c_Laws_worth 46 = .ok (.iload_n 1, 1) := by decide +kernel
theorem dd_Laws_worth_47 : decode c_Laws_worth 47 = .ok (.istore 5, 2) := by decide +kernel
theorem dd_Laws_worth_49 : decode c_Laws_worth 49 = .ok (.iload 5, 2) := by decide +kernel
theorem dd_Laws_worth_51 : decode c_Laws_worth 51 = .ok (.iload_n 2, 1) := by decide +kernel
theorem dd_Laws_worth_52 : decode c_Laws_worth 52 = .ok (.if_icmp .ge 209, 3) := by decide +kernel
theorem dd_Laws_worth_55 : decode c_Laws_worth 55 = .ok (.aload_n 0, 1) := by decide +kernel
theorem dd_Laws_worth_56 : decode c_Laws_worth 56 = .ok (.getfield 21, 3) := by decide +kernel
theorem dd_Laws_worth_59 : decode c_Laws_worth 59 = .ok (.iload 5, 2) := by decide +kernel
theorem dd_Laws_worth_61 : decode c_Laws_worth 61 = .ok (.iaload, 1) := by decide +kernel
theorem dd_Laws_worth_62 : decode c_Laws_worth 62 = .ok (.bipush 127, 2) := by decide +kernel
theorem dd_Laws_worth_64 : decode c_Laws_worth 64 = .ok (.iand, 1) := by decide +kernel
theorem dd_Laws_worth_65 : decode c_Laws_worth 65 = .ok (.istore 6, 2) := by decide +kernel
theorem dd_Laws_worth_67 : decode c_Laws_worth 67 = .ok (.iload 4, 2) := by decide +kernel
theorem dd_Laws_worth_69 : decode c_Laws_worth 69 = .ok (.ifCond .eq 20, 3) := by decide +kernel
theorem dd_Laws_worth_72 : decode c_Laws_worth 72 = .ok (.iload 6, 2) := by decide +kernel
theorem dd_Laws_worth_74 : decode c_Laws_worth 74 = .ok (.bipush 121, 2) := by decide +kernel
theorem dd_Laws_worth_76 : decode c_Laws_worth 76 = .ok (.if_icmp .eq 7, 3) := by decide +kernel
theorem dd_Laws_worth_79 : decode c_Laws_worth 79 = .ok (.iconst 1, 1) := by decide +kernel
theorem dd_Laws_worth_80 : decode c_Laws_worth 80 = .ok (.goto 4, 3) := by decide +kernel
theorem dd_Laws_worth_83 : decode c_Laws_worth 83 = .ok (.iconst 0, 1) := by decide +kernel
theorem dd_Laws_worth_84 : decode c_Laws_worth 84 = .ok (.istore 4, 2) := by decide +kernel
theorem dd_Laws_worth_86 : decode c_Laws_worth 86 = .ok (.goto 169, 3) := by decide +kernel
theorem dd_Laws_worth_89 : decode c_Laws_worth 89 = .ok (.iload 6, 2) := by decide +kernel
theorem dd_Laws_worth_91 : decode c_Laws_worth 91 = .ok (.bipush 48, 2) := by decide +kernel
theorem dd_Laws_worth_93 : decode c_Laws_worth 93 = .ok (.if_icmp .eq 10, 3) := by decide +kernel
theorem dd_Laws_worth_96 : decode c_Laws_worth 96 = .ok (.iload 6, 2) := by decide +kernel
theorem dd_Laws_worth_98 : decode c_Laws_worth 98 = .ok (.bipush 108, 2) := by decide +kernel
theorem dd_Laws_worth_100 : decode c_Laws_worth 100 = .ok (.if_icmp .ne 39, 3) := by decide +kernel
theorem dd_Laws_worth_103 : decode c_Laws_worth 103 = .ok (.iload_n 3, 1) := by decide +kernel
theorem dd_Laws_worth_104 : decode c_Laws_worth 104 = .ok (.bipush 32, 2) := by decide +kernel
theorem dd_Laws_worth_106 : decode c_Laws_worth 106 = .ok (.if_icmp .lt 5, 3) := by decide +kernel
theorem dd_Laws_worth_109 : decode c_Laws_worth 109 = .ok (.iconst 0, 1) := by decide +kernel
theorem dd_Laws_worth_110 : decode c_Laws_worth 110 = .ok (.ireturn, 1) := by decide +kernel
theorem dd_Laws_worth_111 : decode c_Laws_worth 111 = .ok (.aload_n 0, 1) := by decide +kernel
theorem dd_Laws_worth_112 : decode c_Laws_worth 112 = .ok (.getfield 27, 3) := by decide +kernel
theorem dd_Laws_worth_115 : decode c_Laws_worth 115 = .ok (.iload_n 3, 1) := by decide +kernel
theorem dd_Laws_worth_116 : decode c_Laws_worth 116 = .ok (.aload_n 0, 1) := by decide +kernel
theorem dd_Laws_worth_117 : decode c_Laws_worth 117 = .ok (.iload 6, 2) := by decide +kernel
theorem dd_Laws_worth_119 : decode c_Laws_worth 119 = .ok (.aload_n 0, 1) := by decide +kernel
theorem dd_Laws_worth_120 : decode c_Laws_worth 120 = .ok (.getfield 21, 3) := by decide +kernel
theorem dd_Laws_worth_123 : decode c_Laws_worth 123 = .ok (.iload 5, 2) := by decide +kernel
theorem dd_Laws_worth_125 : decode c_Laws_worth 125 = .ok (.iaload, 1) := by decide +kernel
theorem dd_Laws_worth_126 : decode c_Laws_worth 126 = .ok (.bipush 7, 2) := by decide +kernel
theorem dd_Laws_worth_128 : decode c_Laws_worth 128 = .ok (.ishr, 1) := by decide +kernel
theorem dd_Laws_worth_129 : decode c_Laws_worth 129 = .ok (.invokevirtual 41, 3) := by decide +kernel
theorem dd_Laws_worth_132 : decode c_Laws_worth 132 = .ok (.iastore, 1) := by decide +kernel
theorem dd_Laws_worth_133 : decode c_Laws_worth 133 = .ok (.iinc 3 1, 3) := by decide +kernel
theorem dd_Laws_worth_136 : decode c_Laws_worth 136 = .ok (.goto 119, 3) := by decide +kernel
theorem dd_Laws_worth_139 : decode c_Laws_worth 139 = .ok (.iload_n 3, 1) := by decide +kernel
theorem dd_Laws_worth_140 : decode c_Laws_worth 140 = .ok (.ifCond .eq 10, 3) := by decide +kernel
theorem dd_Laws_worth_143 : decode c_Laws_worth 143 = .ok (.iload 6, 2) := by decide +kernel
theorem dd_Laws_worth_145 : decode c_Laws_worth 145 = .ok (.bipush 121, 2) := by decide +kernel
theorem dd_Laws_worth_147 : decode c_Laws_worth 147 = .ok (.if_icmp .ne 20, 3) := by decide +kernel
theorem dd_Laws_worth_150 : decode c_Laws_worth 150 = .ok (.iload_n 3, 1) := by decide +kernel
theorem dd_Laws_worth_151 : decode c_Laws_worth 151 = .ok (.ifCond .ne 7, 3) := by decide +kernel
theorem dd_Laws_worth_154 : decode c_Laws_worth 154 = .ok (.iconst 0, 1) := by decide +kernel
theorem dd_Laws_worth_155 : decode c_Laws_worth 155 = .ok (.goto 11, 3) := by decide +kernel
theorem dd_Laws_worth_158 : decode c_Laws_worth 158 = .ok (.aload_n 0, 1) := by decide +kernel
theorem dd_Laws_worth_159 : decode c_Laws_worth 159 = .ok (.getfield 27, 3) := by decide +kernel
theorem dd_Laws_worth_162 : decode c_Laws_worth 162 = .ok (.iload_n 3, 1) := by decide +kernel
theorem dd_Laws_worth_163 : decode c_Laws_worth 163 = .ok (.iconst 1, 1) := by decide +kernel
theorem dd_Laws_worth_164 : decode c_Laws_worth 164 = .ok (.isub, 1) := by decide +kernel
theorem dd_Laws_worth_165 : decode c_Laws_worth 165 = .ok (.iaload, 1) := by decide +kernel
theorem dd_Laws_worth_166 : decode c_Laws_worth 166 = .ok (.ireturn, 1) := by decide +kernel
theorem dd_Laws_worth_167 : decode c_Laws_worth 167 = .ok (.iload 6, 2) := by decide +kernel
theorem dd_Laws_worth_169 : decode c_Laws_worth 169 = .ok (.bipush 33, 2) := by decide +kernel
theorem dd_Laws_worth_171 : decode c_Laws_worth 171 = .ok (.if_icmp .ne 24, 3) := by decide +kernel
theorem dd_Laws_worth_174 : decode c_Laws_worth 174 = .ok (.aload_n 0, 1) := by decide +kernel
theorem dd_Laws_worth_175 : decode c_Laws_worth 175 = .ok (.getfield 27, 3) := by decide +kernel
theorem dd_Laws_worth_178 : decode c_Laws_worth 178 = .ok (.iload_n 3, 1) := by decide +kernel
theorem dd_Laws_worth_179 : decode c_Laws_worth 179 = .ok (.iconst 1, 1) := by decide +kernel
theorem dd_Laws_worth_180 : decode c_Laws_worth 180 = .ok (.isub, 1) := by decide +kernel
theorem dd_Laws_worth_181 : decode c_Laws_worth 181 = .ok (.iconst 1, 1) := by decide +kernel
theorem dd_Laws_worth_182 : decode c_Laws_worth 182 = .ok (.aload_n 0, 1) := by decide +kernel
theorem dd_Laws_worth_183 : decode c_Laws_worth 183 = .ok (.getfield 27, 3) := by decide +kernel
theorem dd_Laws_worth_186 : decode c_Laws_worth 186 = .ok (.iload_n 3, 1) := by decide +kernel
theorem dd_Laws_worth_187 : decode c_Laws_worth 187 = .ok (.iconst 1, 1) := by decide +kernel
theorem dd_Laws_worth_188 : decode c_Laws_worth 188 = .ok (.isub, 1) := by decide +kernel
theorem dd_Laws_worth_189 : decode c_Laws_worth 189 = .ok (.iaload, 1) := by decide +kernel
theorem dd_Laws_worth_190 : decode c_Laws_worth 190 = .ok (.isub, 1) := by decide +kernel
theorem dd_Laws_worth_191 : decode c_Laws_worth 191 = .ok (.iastore, 1) := by decide +kernel
theorem dd_Laws_worth_192 : decode c_Laws_worth 192 = .ok (.goto 63, 3) := by decide +kernel
theorem dd_Laws_worth_195 : decode c_Laws_worth 195 = .ok (.iinc 3 (-1), 3) := by decide +kernel
theorem dd_Laws_worth_198 : decode c_Laws_worth 198 = .ok (.iload 6, 2) := by decide +kernel
theorem dd_Laws_worth_200 : decode c_Laws_worth 200 = .ok (.bipush 63, 2) := by decide +kernel
theorem dd_Laws_worth_202 : decode c_Laws_worth 202 = .ok (.if_icmp .ne 22, 3) := by decide +kernel
theorem dd_Laws_worth_205 : decode c_Laws_worth 205 = .ok (.aload_n 0, 1) := by decide +kernel
theorem dd_Laws_worth_206 : decode c_Laws_worth 206 = .ok (.getfield 27, 3) := by decide +kernel
theorem dd_Laws_worth_209 : decode c_Laws_worth 209 = .ok (.iload_n 3, 1) := by decide +kernel
theorem dd_Laws_worth_210 : decode c_Laws_worth 210 = .ok (.iaload, 1) := by decide +kernel
theorem dd_Laws_worth_211 : decode c_Laws_worth 211 = .ok (.ifCond .ne 7, 3) := by decide +kernel
theorem dd_Laws_worth_214 : decode c_Laws_worth 214 = .ok (.iconst 1, 1) := by decide +kernel
theorem dd_Laws_worth_215 : decode c_Laws_worth 215 = .ok (.goto 4, 3) := by decide +kernel
theorem dd_Laws_worth_218 : decode c_Laws_worth 218 = .ok (.iconst 0, 1) := by decide +kernel
theorem dd_Laws_worth_219 : decode c_Laws_worth 219 = .ok (.istore 4, 2) := by decide +kernel
theorem dd_Laws_worth_221 : decode c_Laws_worth 221 = .ok (.goto 34, 3) := by decide +kernel
theorem dd_Laws_worth_224 : decode c_Laws_worth 224 = .ok (.iload_n 3, 1) := by decide +kernel
theorem dd_Laws_worth_225 : decode c_Laws_worth 225 = .ok (.ifCond .le 30, 3) := by decide +kernel
theorem dd_Laws_worth_228 : decode c_Laws_worth 228 = .ok (.aload_n 0, 1) := by decide +kernel
theorem dd_Laws_worth_229 : decode c_Laws_worth 229 = .ok (.getfield 27, 3) := by decide +kernel
theorem dd_Laws_worth_232 : decode c_Laws_worth 232 = .ok (.iload_n 3, 1) := by decide +kernel
theorem dd_Laws_worth_233 : decode c_Laws_worth 233 = .ok (.iconst 1, 1) := by decide +kernel
theorem dd_Laws_worth_234 : decode c_Laws_worth 234 = .ok (.isub, 1) := by decide +kernel
theorem dd_Laws_worth_235 : decode c_Laws_worth 235 = .ok (.iload 6, 2) := by decide +kernel
theorem dd_Laws_worth_237 : decode c_Laws_worth 237 = .ok (.aload_n 0, 1) := by decide +kernel
theorem dd_Laws_worth_238 : decode c_Laws_worth 238 = .ok (.getfield 27, 3) := by decide +kernel
theorem dd_Laws_worth_241 : decode c_Laws_worth 241 = .ok (.iload_n 3, 1) := by decide +kernel
theorem dd_Laws_worth_242 : decode c_Laws_worth 242 = .ok (.iconst 1, 1) := by decide +kernel
theorem dd_Laws_worth_243 : decode c_Laws_worth 243 = .ok (.isub, 1) := by decide +kernel
theorem dd_Laws_worth_244 : decode c_Laws_worth 244 = .ok (.iaload, 1) := by decide +kernel
theorem dd_Laws_worth_245 : decode c_Laws_worth 245 = .ok (.aload_n 0, 1) := by decide +kernel
theorem dd_Laws_worth_246 : decode c_Laws_worth 246 = .ok (.getfield 27, 3) := by decide +kernel
theorem dd_Laws_worth_249 : decode c_Laws_worth 249 = .ok (.iload_n 3, 1) := by decide +kernel
theorem dd_Laws_worth_250 : decode c_Laws_worth 250 = .ok (.iaload, 1) := by decide +kernel
theorem dd_Laws_worth_251 : decode c_Laws_worth 251 = .ok (.invokestatic 45, 3) := by decide +kernel
theorem dd_Laws_worth_254 : decode c_Laws_worth 254 = .ok (.iastore, 1) := by decide +kernel
theorem dd_Laws_worth_255 : decode c_Laws_worth 255 = .ok (.iinc 5 1, 3) := by decide +kernel
theorem dd_Laws_worth_258 : decode c_Laws_worth 258 = .ok (.goto (-209), 3) := by decide +kernel
theorem dd_Laws_worth_261 : decode c_Laws_worth 261 = .ok (.iconst 0, 1) := by decide +kernel
theorem dd_Laws_worth_262 : decode c_Laws_worth 262 = .ok (.ireturn, 1) := by decide +kernel
theorem dd_Stays_worthWithoutLaw_0 : decode c_Stays_worthWithoutLaw 0 = .ok (.iload_n 3, 1) := by decide +kernel
theorem dd_Stays_worthWithoutLaw_1 : decode c_Stays_worthWithoutLaw 1 = .ok (.aload_n 0, 1) := by decide +kernel
theorem dd_Stays_worthWithoutLaw_2 : decode c_Stays_worthWithoutLaw 2 = .ok (.getfield 9, 3) := by decide +kernel
theorem dd_Stays_worthWithoutLaw_5 : decode c_Stays_worthWithoutLaw 5 = .ok (.getfield 84, 3) := by decide +kernel
theorem dd_Stays_worthWithoutLaw_8 : decode c_Stays_worthWithoutLaw 8 = .ok (.if_icmp .ge 15, 3) := by decide +kernel
theorem dd_Stays_worthWithoutLaw_11 : decode c_Stays_worthWithoutLaw 11 = .ok (.aload_n 0, 1) := by decide +kernel
theorem dd_Stays_worthWithoutLaw_12 : decode c_Stays_worthWithoutLaw 12 = .ok (.getfield 9, 3) := by decide +kernel
theorem dd_Stays_worthWithoutLaw_15 : decode c_Stays_worthWithoutLaw 15 = .ok (.getfield 52, 3) := by decide +kernel
theorem dd_Stays_worthWithoutLaw_18 : decode c_Stays_worthWithoutLaw 18 = .ok (.iload_n 2, 1) := by decide +kernel
theorem dd_Stays_worthWithoutLaw_19 : decode c_Stays_worthWithoutLaw 19 = .ok (.iaload, 1) := by decide +kernel
theorem dd_Stays_worthWithoutLaw_20 : decode c_Stays_worthWithoutLaw 20 = .ok (.goto 4, 3) := by decide +kernel
theorem dd_Stays_worthWithoutLaw_23 : decode c_Stays_worthWithoutLaw 23 = .ok (.iconst 0, 1) := by decide +kernel
theorem dd_Stays_worthWithoutLaw_24 : decode c_Stays_worthWithoutLaw 24 = .ok (.istore 5, 2) := by decide +kernel
theorem dd_Stays_worthWithoutLaw_26 : decode c_Stays_worthWithoutLaw 26 = .ok (.iload 5, 2) := by decide +kernel
theorem dd_Stays_worthWithoutLaw_28 : decode c_Stays_worthWithoutLaw 28 = .ok (.iload 4, 2) := by decide +kernel
theorem dd_Stays_worthWithoutLaw_30 : decode c_Stays_worthWithoutLaw 30 = .ok (.iadd, 1) := by decide +kernel
theorem dd_Stays_worthWithoutLaw_31 : decode c_Stays_worthWithoutLaw 31 = .ok (.aload_n 0, 1) := by decide +kernel
theorem dd_Stays_worthWithoutLaw_32 : decode c_Stays_worthWithoutLaw 32 = .ok (.getfield 9, 3) := by decide +kernel
theorem dd_Stays_worthWithoutLaw_35 : decode c_Stays_worthWithoutLaw 35 = .ok (.getfield 55, 3) := by decide +kernel
theorem dd_Stays_worthWithoutLaw_38 : decode c_Stays_worthWithoutLaw 38 = .ok (.iload_n 1, 1) := by decide +kernel
theorem dd_Stays_worthWithoutLaw_39 : decode c_Stays_worthWithoutLaw 39 = .ok (.iaload, 1) := by decide +kernel
theorem dd_Stays_worthWithoutLaw_40 : decode c_Stays_worthWithoutLaw 40 = .ok (.iconst 3, 1) := by decide +kernel
theorem dd_Stays_worthWithoutLaw_41 : decode c_Stays_worthWithoutLaw 41 = .ok (.idiv, 1) := by decide +kernel
theorem dd_Stays_worthWithoutLaw_42 : decode c_Stays_worthWithoutLaw 42 = .ok (.iadd, 1) := by decide +kernel
theorem dd_Stays_worthWithoutLaw_43 : decode c_Stays_worthWithoutLaw 43 = .ok (.iconst 2, 1) := by decide +kernel
theorem dd_Stays_worthWithoutLaw_44 : decode c_Stays_worthWithoutLaw 44 = .ok (.aload_n 0, 1) := by decide +kernel
theorem dd_Stays_worthWithoutLaw_45 : decode c_Stays_worthWithoutLaw 45 = .ok (.getfield 9, 3) := by decide +kernel
theorem dd_Stays_worthWithoutLaw_48 : decode c_Stays_worthWithoutLaw 48 = .ok (.getfield 61, 3) := by decide +kernel
theorem dd_Stays_worthWithoutLaw_51 : decode c_Stays_worthWithoutLaw 51 = .ok (.iload_n 2, 1) := by decide +kernel
theorem dd_Stays_worthWithoutLaw_52 : decode c_Stays_worthWithoutLaw 52 = .ok (.iaload, 1) := by decide +kernel
theorem dd_Stays_worthWithoutLaw_53 : decode c_Stays_worthWithoutLaw 53 = .ok (.imul, 1) := by decide +kernel
theorem dd_Stays_worthWithoutLaw_54 : decode c_Stays_worthWithoutLaw 54 = .ok (.iadd, 1) := by decide +kernel
theorem dd_Stays_worthWithoutLaw_55 : decode c_Stays_worthWithoutLaw 55 = .ok (.iload_n 3, 1) := by decide +kernel
theorem dd_Stays_worthWithoutLaw_56 : decode c_Stays_worthWithoutLaw 56 = .ok (.isub, 1) := by decide +kernel
theorem dd_Stays_worthWithoutLaw_57 : decode c_Stays_worthWithoutLaw 57 = .ok (.ireturn, 1) := by decide +kernel
theorem dd_Stays_by_0 : decode c_Stays_by 0 = .ok (.aload_n 0, 1) := by decide +kernel
theorem dd_Stays_by_1 : decode c_Stays_by 1 = .ok (.getfield 19, 3) := by decide +kernel
theorem dd_Stays_by_4 : decode c_Stays_by 4 = .ok (.getfield 47, 3) := by decide +kernel
theorem dd_Stays_by_7 : decode c_Stays_by 7 = .ok (.iconst 0, 1) := by decide +kernel
theorem dd_Stays_by_8 : decode c_Stays_by 8 = .ok (.aload_n 0, 1) := by decide +kernel
theorem dd_Stays_by_9 : decode c_Stays_by 9 = .ok (.getfield 9, 3) := by decide +kernel
theorem dd_Stays_by_12 : decode c_Stays_by 12 = .ok (.getfield 52, 3) := by decide +kernel
theorem dd_Stays_by_15 : decode c_Stays_by 15 = .ok (.iload_n 2, 1) := by decide +kernel
theorem dd_Stays_by_16 : decode c_Stays_by 16 = .ok (.iaload, 1) := by decide +kernel
theorem dd_Stays_by_17 : decode c_Stays_by 17 = .ok (.iastore, 1) := by decide +kernel
theorem dd_Stays_by_18 : decode c_Stays_by 18 = .ok (.aload_n 0, 1) := by decide +kernel
theorem dd_Stays_by_19 : decode c_Stays_by 19 = .ok (.getfield 19, 3) := by decide +kernel
theorem dd_Stays_by_22 : decode c_Stays_by 22 = .ok (.getfield 47, 3) := by decide +kernel
theorem dd_Stays_by_25 : decode c_Stays_by 25 = .ok (.iconst 1, 1) := by decide +kernel
theorem dd_Stays_by_26 : decode c_Stays_by 26 = .ok (.iload 4, 2) := by decide +kernel
theorem dd_Stays_by_28 : decode c_Stays_by 28 = .ok (.iastore, 1) := by decide +kernel
theorem dd_Stays_by_29 : decode c_Stays_by 29 = .ok (.aload_n 0, 1) := by decide +kernel
theorem dd_Stays_by_30 : decode c_Stays_by 30 = .ok (.getfield 19, 3) := by decide +kernel
theorem dd_Stays_by_33 : decode c_Stays_by 33 = .ok (.getfield 47, 3) := by decide +kernel
theorem dd_Stays_by_36 : decode c_Stays_by 36 = .ok (.iconst 2, 1) := by decide +kernel
theorem dd_Stays_by_37 : decode c_Stays_by 37 = .ok (.aload_n 0, 1) := by decide +kernel
theorem dd_Stays_by_38 : decode c_Stays_by 38 = .ok (.getfield 9, 3) := by decide +kernel
theorem dd_Stays_by_41 : decode c_Stays_by 41 = .ok (.getfield 55, 3) := by decide +kernel
theorem dd_Stays_by_44 : decode c_Stays_by 44 = .ok (.iload_n 1, 1) := by decide +kernel
theorem dd_Stays_by_45 : decode c_Stays_by 45 = .ok (.iaload, 1) := by decide +kernel
theorem dd_Stays_by_46 : decode c_Stays_by 46 = .ok (.iastore, 1) := by decide +kernel
theorem dd_Stays_by_47 : decode c_Stays_by 47 = .ok (.aload_n 0, 1) := by decide +kernel
theorem dd_Stays_by_48 : decode c_Stays_by 48 = .ok (.getfield 19, 3) := by decide +kernel
theorem dd_Stays_by_51 : decode c_Stays_by 51 = .ok (.getfield 47, 3) := by decide +kernel
theorem dd_Stays_by_54 : decode c_Stays_by 54 = .ok (.iconst 3, 1) := by decide +kernel
theorem dd_Stays_by_55 : decode c_Stays_by 55 = .ok (.iload_n 3, 1) := by decide +kernel
theorem dd_Stays_by_56 : decode c_Stays_by 56 = .ok (.iastore, 1) := by decide +kernel
theorem dd_Stays_by_57 : decode c_Stays_by 57 = .ok (.aload_n 0, 1) := by decide +kernel
theorem dd_Stays_by_58 : decode c_Stays_by 58 = .ok (.getfield 19, 3) := by decide +kernel
theorem dd_Stays_by_61 : decode c_Stays_by 61 = .ok (.getfield 47, 3) := by decide +kernel
theorem dd_Stays_by_64 : decode c_Stays_by 64 = .ok (.iconst 4, 1) := by decide +kernel
theorem dd_Stays_by_65 : decode c_Stays_by 65 = .ok (.aload_n 0, 1) := by decide +kernel
theorem dd_Stays_by_66 : decode c_Stays_by 66 = .ok (.getfield 9, 3) := by decide +kernel
theorem dd_Stays_by_69 : decode c_Stays_by 69 = .ok (.getfield 58, 3) := by decide +kernel
theorem dd_Stays_by_72 : decode c_Stays_by 72 = .ok (.iload_n 1, 1) := by decide +kernel
theorem dd_Stays_by_73 : decode c_Stays_by 73 = .ok (.iaload, 1) := by decide +kernel
theorem dd_Stays_by_74 : decode c_Stays_by 74 = .ok (.iastore, 1) := by decide +kernel
theorem dd_Stays_by_75 : decode c_Stays_by 75 = .ok (.aload_n 0, 1) := by decide +kernel
theorem dd_Stays_by_76 : decode c_Stays_by 76 = .ok (.getfield 19, 3) := by decide +kernel
theorem dd_Stays_by_79 : decode c_Stays_by 79 = .ok (.getfield 47, 3) := by decide +kernel
theorem dd_Stays_by_82 : decode c_Stays_by 82 = .ok (.iconst 5, 1) := by decide +kernel
theorem dd_Stays_by_83 : decode c_Stays_by 83 = .ok (.aload_n 0, 1) := by decide +kernel
theorem dd_Stays_by_84 : decode c_Stays_by 84 = .ok (.getfield 9, 3) := by decide +kernel
theorem dd_Stays_by_87 : decode c_Stays_by 87 = .ok (.getfield 61, 3) := by decide +kernel
theorem dd_Stays_by_90 : decode c_Stays_by 90 = .ok (.iload_n 2, 1) := by decide +kernel
theorem dd_Stays_by_91 : decode c_Stays_by 91 = .ok (.iaload, 1) := by decide +kernel
theorem dd_Stays_by_92 : decode c_Stays_by 92 = .ok (.iastore, 1) := by decide +kernel
theorem dd_Stays_by_93 : decode c_Stays_by 93 = .ok (.aload_n 0, 1) := by decide +kernel
theorem dd_Stays_by_94 : decode c_Stays_by 94 = .ok (.getfield 19, 3) := by decide +kernel
theorem dd_Stays_by_97 : decode c_Stays_by 97 = .ok (.getfield 64, 3) := by decide +kernel
theorem dd_Stays_by_100 : decode c_Stays_by 100 = .ok (.iconst (-1), 1) := by decide +kernel
theorem dd_Stays_by_101 : decode c_Stays_by 101 = .ok (.if_icmp .ne 15, 3) := by decide +kernel
theorem dd_Stays_by_104 : decode c_Stays_by 104 = .ok (.aload_n 0, 1) := by decide +kernel
theorem dd_Stays_by_105 : decode c_Stays_by 105 = .ok (.iload_n 1, 1) := by decide +kernel
theorem dd_Stays_by_106 : decode c_Stays_by 106 = .ok (.iload_n 2, 1) := by decide +kernel
theorem dd_Stays_by_107 : decode c_Stays_by 107 = .ok (.iload_n 3, 1) := by decide +kernel
theorem dd_Stays_by_108 : decode c_Stays_by 108 = .ok (.iload 4, 2) := by decide +kernel
theorem dd_Stays_by_110 : decode c_Stays_by 110 = .ok (.invokevirtual 68, 3) := by decide +kernel
theorem dd_Stays_by_113 : decode c_Stays_by 113 = .ok (.goto 10, 3) := by decide +kernel
theorem dd_Stays_by_116 : decode c_Stays_by 116 = .ok (.aload_n 0, 1) := by decide +kernel
theorem dd_Stays_by_117 : decode c_Stays_by 117 = .ok (.getfield 19, 3) := by decide +kernel
theorem dd_Stays_by_120 : decode c_Stays_by 120 = .ok (.invokevirtual 71, 3) := by decide +kernel
theorem dd_Stays_by_123 : decode c_Stays_by 123 = .ok (.istore 5, 2) := by decide +kernel
theorem dd_Stays_by_125 : decode c_Stays_by 125 = .ok (.iconst 0, 1) := by decide +kernel
theorem dd_Stays_by_126 : decode c_Stays_by 126 = .ok (.iload 5, 2) := by decide +kernel
theorem dd_Stays_by_128 : decode c_Stays_by 128 = .ok (.bipush 20, 2) := by decide +kernel
theorem dd_Stays_by_130 : decode c_Stays_by 130 = .ok (.invokestatic 75, 3) := by decide +kernel
theorem dd_Stays_by_133 : decode c_Stays_by 133 = .ok (.invokestatic 81, 3) := by decide +kernel
theorem dd_Stays_by_136 : decode c_Stays_by 136 = .ok (.ireturn, 1) := by decide +kernel
theorem dd_Stays_now_0 : decode c_Stays_now 0 = .ok (.aload_n 0, 1) := by decide +kernel
theorem dd_Stays_now_1 : decode c_Stays_now 1 = .ok (.iload_n 1, 1) := by decide +kernel
theorem dd_Stays_now_2 : decode c_Stays_now 2 = .ok (.iload_n 2, 1) := by decide +kernel
theorem dd_Stays_now_3 : decode c_Stays_now 3 = .ok (.aload_n 0, 1) := by decide +kernel
theorem dd_Stays_now_4 : decode c_Stays_now 4 = .ok (.getfield 15, 3) := by decide +kernel
theorem dd_Stays_now_7 : decode c_Stays_now 7 = .ok (.getfield 23, 3) := by decide +kernel
theorem dd_Stays_now_10 : decode c_Stays_now 10 = .ok (.iload_n 1, 1) := by decide +kernel
theorem dd_Stays_now_11 : decode c_Stays_now 11 = .ok (.bipush 6, 2) := by decide +kernel
theorem dd_Stays_now_13 : decode c_Stays_now 13 = .ok (.imul, 1) := by decide +kernel
theorem dd_Stays_now_14 : decode c_Stays_now 14 = .ok (.iload_n 2, 1) := by decide +kernel
theorem dd_Stays_now_15 : decode c_Stays_now 15 = .ok (.iadd, 1) := by decide +kernel
theorem dd_Stays_now_16 : decode c_Stays_now 16 = .ok (.iaload, 1) := by decide +kernel
theorem dd_Stays_now_17 : decode c_Stays_now 17 = .ok (.aload_n 0, 1) := by decide +kernel
theorem dd_Stays_now_18 : decode c_Stays_now 18 = .ok (.getfield 15, 3) := by decide +kernel
theorem dd_Stays_now_21 : decode c_Stays_now 21 = .ok (.getfield 29, 3) := by decide +kernel
theorem dd_Stays_now_24 : decode c_Stays_now 24 = .ok (.iload_n 2, 1) := by decide +kernel
theorem dd_Stays_now_25 : decode c_Stays_now 25 = .ok (.iaload, 1) := by decide +kernel
theorem dd_Stays_now_26 : decode c_Stays_now 26 = .ok (.invokevirtual 32, 3) := by decide +kernel
theorem dd_Stays_now_29 : decode c_Stays_now 29 = .ok (.ireturn, 1) := by decide +kernel
theorem dd_W_nights_0 : decode c_W_nights 0 = .ok (.aload_n 0, 1) := by decide +kernel
theorem dd_W_nights_1 : decode c_W_nights 1 = .ok (.getfield 42, 3) := by decide +kernel
theorem dd_W_nights_4 : decode c_W_nights 4 = .ok (.iload_n 1, 1) := by decide +kernel
theorem dd_W_nights_5 : decode c_W_nights 5 = .ok (.iload_n 2, 1) := by decide +kernel
theorem dd_W_nights_6 : decode c_W_nights 6 = .ok (.invokevirtual 181, 3) := by decide +kernel
theorem dd_W_nights_9 : decode c_W_nights 9 = .ok (.ifCond .eq 15, 3) := by decide +kernel
theorem dd_W_nights_12 : decode c_W_nights 12 = .ok (.aload_n 0, 1) := by decide +kernel
theorem dd_W_nights_13 : decode c_W_nights 13 = .ok (.getfield 65, 3) := by decide +kernel
theorem dd_W_nights_16 : decode c_W_nights 16 = .ok (.iload_n 1, 1) := by decide +kernel
theorem dd_W_nights_17 : decode c_W_nights 17 = .ok (.iload_n 2, 1) := by decide +kernel
theorem dd_W_nights_18 : decode c_W_nights 18 = .ok (.invokevirtual 188, 3) := by decide +kernel
theorem dd_W_nights_21 : decode c_W_nights 21 = .ok (.goto 4, 3) := by decide +kernel
theorem dd_W_nights_24 : decode c_W_nights 24 = .ok (.iconst (-1), 1) := by decide +kernel
theorem dd_W_nights_25 : decode c_W_nights 25 = .ok (.ireturn, 1) := by decide +kernel
theorem dd_M_bounded_0 : decode c_M_bounded 0 = .ok (.ldc2_w 180, 3) := by decide +kernel
theorem dd_M_bounded_3 : decode c_M_bounded 3 = .ok (.ldc2_w 182, 3) := by decide +kernel
theorem dd_M_bounded_6 : decode c_M_bounded 6 = .ok (.lload_n 0, 1) := by decide +kernel
theorem dd_M_bounded_7 : decode c_M_bounded 7 = .ok (.invokestatic 184, 3) := by decide +kernel
theorem dd_M_bounded_10 : decode c_M_bounded 10 = .ok (.invokestatic 190, 3) := by decide +kernel
theorem dd_M_bounded_13 : decode c_M_bounded 13 = .ok (.l2i, 1) := by decide +kernel
theorem dd_M_bounded_14 : decode c_M_bounded 14 = .ok (.ireturn, 1) := by decide +kernel
theorem dd_M_worked_0 : decode c_M_worked 0 = .ok (.iload_n 0, 1) := by decide +kernel
theorem dd_M_worked_1 : decode c_M_worked 1 = .ok (.tableswitch 143 2 10 #[51, 58, 65, 72, 89, 101, 113, 143, 125], 51) := by decide +kernel
theorem dd_M_worked_52 : decode c_M_worked 52 = .ok (.lload_n 1, 1) := by decide +kernel
theorem dd_M_worked_53 : decode c_M_worked 53 = .ok (.lload_n 3, 1) := by decide +kernel
theorem dd_M_worked_54 : decode c_M_worked 54 = .ok (.ladd, 1) := by decide +kernel
theorem dd_M_worked_55 : decode c_M_worked 55 = .ok (.invokestatic 193, 3) := by decide +kernel
theorem dd_M_worked_58 : decode c_M_worked 58 = .ok (.ireturn, 1) := by decide +kernel
theorem dd_M_worked_59 : decode c_M_worked 59 = .ok (.lload_n 1, 1) := by decide +kernel
theorem dd_M_worked_60 : decode c_M_worked 60 = .ok (.lload_n 3, 1) := by decide +kernel
theorem dd_M_worked_61 : decode c_M_worked 61 = .ok (.lsub, 1) := by decide +kernel
theorem dd_M_worked_62 : decode c_M_worked 62 = .ok (.invokestatic 193, 3) := by decide +kernel
theorem dd_M_worked_65 : decode c_M_worked 65 = .ok (.ireturn, 1) := by decide +kernel
theorem dd_M_worked_66 : decode c_M_worked 66 = .ok (.lload_n 1, 1) := by decide +kernel
theorem dd_M_worked_67 : decode c_M_worked 67 = .ok (.lload_n 3, 1) := by decide +kernel
theorem dd_M_worked_68 : decode c_M_worked 68 = .ok (.lmul, 1) := by decide +kernel
theorem dd_M_worked_69 : decode c_M_worked 69 = .ok (.invokestatic 193, 3) := by decide +kernel
theorem dd_M_worked_72 : decode c_M_worked 72 = .ok (.ireturn, 1) := by decide +kernel
theorem dd_M_worked_73 : decode c_M_worked 73 = .ok (.lload_n 3, 1) := by decide +kernel
theorem dd_M_worked_74 : decode c_M_worked 74 = .ok (.lconst 0, 1) := by decide +kernel
theorem dd_M_worked_75 : decode c_M_worked 75 = .ok (.lcmp, 1) := by decide +kernel
theorem dd_M_worked_76 : decode c_M_worked 76 = .ok (.ifCond .ne 7, 3) := by decide +kernel
theorem dd_M_worked_79 : decode c_M_worked 79 = .ok (.iconst 0, 1) := by decide +kernel
theorem dd_M_worked_80 : decode c_M_worked 80 = .ok (.goto 9, 3) := by decide +kernel
theorem dd_M_worked_83 : decode c_M_worked 83 = .ok (.lload_n 1, 1) := by decide +kernel
theorem dd_M_worked_84 : decode c_M_worked 84 = .ok (.lload_n 3, 1) := by decide +kernel
theorem dd_M_worked_85 : decode c_M_worked 85 = .ok (.ldiv, 1) := by decide +kernel
theorem dd_M_worked_86 : decode c_M_worked 86 = .ok (.invokestatic 193, 3) := by decide +kernel
theorem dd_M_worked_89 : decode c_M_worked 89 = .ok (.ireturn, 1) := by decide +kernel
theorem dd_M_worked_90 : decode c_M_worked 90 = .ok (.lload_n 1, 1) := by decide +kernel
theorem dd_M_worked_91 : decode c_M_worked 91 = .ok (.lload_n 3, 1) := by decide +kernel
theorem dd_M_worked_92 : decode c_M_worked 92 = .ok (.lcmp, 1) := by decide +kernel
theorem dd_M_worked_93 : decode c_M_worked 93 = .ok (.ifCond .ne 7, 3) := by decide +kernel
theorem dd_M_worked_96 : decode c_M_worked 96 = .ok (.iconst 1, 1) := by decide +kernel
theorem dd_M_worked_97 : decode c_M_worked 97 = .ok (.goto 4, 3) := by decide +kernel
theorem dd_M_worked_100 : decode c_M_worked 100 = .ok (.iconst 0, 1) := by decide +kernel
theorem dd_M_worked_101 : decode c_M_worked 101 = .ok (.ireturn, 1) := by decide +kernel
theorem dd_M_worked_102 : decode c_M_worked 102 = .ok (.lload_n 1, 1) := by decide +kernel
theorem dd_M_worked_103 : decode c_M_worked 103 = .ok (.lload_n 3, 1) := by decide +kernel
theorem dd_M_worked_104 : decode c_M_worked 104 = .ok (.lcmp, 1) := by decide +kernel
theorem dd_M_worked_105 : decode c_M_worked 105 = .ok (.ifCond .ge 7, 3) := by decide +kernel
theorem dd_M_worked_108 : decode c_M_worked 108 = .ok (.iconst 1, 1) := by decide +kernel
theorem dd_M_worked_109 : decode c_M_worked 109 = .ok (.goto 4, 3) := by decide +kernel
theorem dd_M_worked_112 : decode c_M_worked 112 = .ok (.iconst 0, 1) := by decide +kernel
theorem dd_M_worked_113 : decode c_M_worked 113 = .ok (.ireturn, 1) := by decide +kernel
theorem dd_M_worked_114 : decode c_M_worked 114 = .ok (.lload_n 1, 1) := by decide +kernel
theorem dd_M_worked_115 : decode c_M_worked 115 = .ok (.lload_n 3, 1) := by decide +kernel
theorem dd_M_worked_116 : decode c_M_worked 116 = .ok (.lcmp, 1) := by decide +kernel
theorem dd_M_worked_117 : decode c_M_worked 117 = .ok (.ifCond .le 7, 3) := by decide +kernel
theorem dd_M_worked_120 : decode c_M_worked 120 = .ok (.iconst 1, 1) := by decide +kernel
theorem dd_M_worked_121 : decode c_M_worked 121 = .ok (.goto 4, 3) := by decide +kernel
theorem dd_M_worked_124 : decode c_M_worked 124 = .ok (.iconst 0, 1) := by decide +kernel
theorem dd_M_worked_125 : decode c_M_worked 125 = .ok (.ireturn, 1) := by decide +kernel
theorem dd_M_worked_126 : decode c_M_worked 126 = .ok (.lload_n 1, 1) := by decide +kernel
theorem dd_M_worked_127 : decode c_M_worked 127 = .ok (.lconst 0, 1) := by decide +kernel
theorem dd_M_worked_128 : decode c_M_worked 128 = .ok (.lcmp, 1) := by decide +kernel
theorem dd_M_worked_129 : decode c_M_worked 129 = .ok (.ifCond .eq 13, 3) := by decide +kernel
theorem dd_M_worked_132 : decode c_M_worked 132 = .ok (.lload_n 3, 1) := by decide +kernel
theorem dd_M_worked_133 : decode c_M_worked 133 = .ok (.lconst 0, 1) := by decide +kernel
theorem dd_M_worked_134 : decode c_M_worked 134 = .ok (.lcmp, 1) := by decide +kernel
theorem dd_M_worked_135 : decode c_M_worked 135 = .ok (.ifCond .eq 7, 3) := by decide +kernel
theorem dd_M_worked_138 : decode c_M_worked 138 = .ok (.iconst 1, 1) := by decide +kernel
theorem dd_M_worked_139 : decode c_M_worked 139 = .ok (.goto 4, 3) := by decide +kernel
theorem dd_M_worked_142 : decode c_M_worked 142 = .ok (.iconst 0, 1) := by decide +kernel
theorem dd_M_worked_143 : decode c_M_worked 143 = .ok (.ireturn, 1) := by decide +kernel
theorem dd_M_worked_144 : decode c_M_worked 144 = .ok (.lload_n 1, 1) := by decide +kernel
theorem dd_M_worked_145 : decode c_M_worked 145 = .ok (.lconst 0, 1) := by decide +kernel
theorem dd_M_worked_146 : decode c_M_worked 146 = .ok (.lcmp, 1) := by decide +kernel
theorem dd_M_worked_147 : decode c_M_worked 147 = .ok (.ifCond .ne 9, 3) := by decide +kernel
theorem dd_M_worked_150 : decode c_M_worked 150 = .ok (.lload_n 3, 1) := by decide +kernel
theorem dd_M_worked_151 : decode c_M_worked 151 = .ok (.lconst 0, 1) := by decide +kernel
theorem dd_M_worked_152 : decode c_M_worked 152 = .ok (.lcmp, 1) := by decide +kernel
theorem dd_M_worked_153 : decode c_M_worked 153 = .ok (.ifCond .eq 7, 3) := by decide +kernel
theorem dd_M_worked_156 : decode c_M_worked 156 = .ok (.iconst 1, 1) := by decide +kernel
theorem dd_M_worked_157 : decode c_M_worked 157 = .ok (.goto 4, 3) := by decide +kernel
theorem dd_M_worked_160 : decode c_M_worked 160 = .ok (.iconst 0, 1) := by decide +kernel
theorem dd_M_worked_161 : decode c_M_worked 161 = .ok (.ireturn, 1) := by decide +kernel
theorem dd_M_workOut_0 : decode c_M_workOut 0 = .ok (.iconst 0, 1) := by decide +kernel
theorem dd_M_workOut_1 : decode c_M_workOut 1 = .ok (.istore 4, 2) := by decide +kernel
theorem dd_M_workOut_3 : decode c_M_workOut 3 = .ok (.sipush 520, 3) := by decide +kernel
theorem dd_M_workOut_6 : decode c_M_workOut 6 = .ok (.iload_n 1, 1) := by decide +kernel
theorem dd_M_workOut_7 : decode c_M_workOut 7 = .ok (.imul, 1) := by decide +kernel
theorem dd_M_workOut_8 : decode c_M_workOut 8 = .ok (.iload_n 2, 1) := by decide +kernel
theorem dd_M_workOut_9 : decode c_M_workOut 9 = .ok (.iadd, 1) := by decide +kernel
theorem dd_M_workOut_10 : decode c_M_workOut 10 = .ok (.istore 5, 2) := by decide +kernel
theorem dd_M_workOut_12 : decode c_M_workOut 12 = .ok (.iload 5, 2) := by decide +kernel
theorem dd_M_workOut_14 : decode c_M_workOut 14 = .ok (.sipush 520, 3) := by decide +kernel
theorem dd_M_workOut_17 : decode c_M_workOut 17 = .ok (.iload_n 1, 1) := by decide +kernel
theorem dd_M_workOut_18 : decode c_M_workOut 18 = .ok (.imul, 1) := by decide +kernel
theorem dd_M_workOut_19 : decode c_M_workOut 19 = .ok (.iload_n 3, 1) := by decide +kernel
theorem dd_M_workOut_20 : decode c_M_workOut 20 = .ok (.iadd, 1) := by decide +kernel
theorem dd_M_workOut_21 : decode c_M_workOut 21 = .ok (.if_icmp .ge 150, 3) := by decide +kernel
theorem dd_M_workOut_24 : decode c_M_workOut 24 = .ok (.aload_n 0, 1) := by decide +kernel
theorem dd_M_workOut_25 : decode c_M_workOut 25 = .ok (.getfield 13, 3) := by decide +kernel
theorem dd_M_workOut_28 : decode c_M_workOut 28 = .ok (.iload 5, 2) := by decide +kernel
theorem dd_M_workOut_30 : decode c_M_workOut 30 = .ok (.iaload, 1) := by decide +kernel
theorem dd_M_workOut_31 : decode c_M_workOut 31 = .ok (.ifCond .eq 14, 3) := by decide +kernel
theorem dd_M_workOut_34 : decode c_M_workOut 34 = .ok (.aload_n 0, 1) := by decide +kernel
theorem dd_M_workOut_35 : decode c_M_workOut 35 = .ok (.getfield 13, 3) := by decide +kernel
theorem dd_M_workOut_38 : decode c_M_workOut 38 = .ok (.iload 5, 2) := by decide +kernel
theorem dd_M_workOut_40 : decode c_M_workOut 40 = .ok (.iaload, 1) := by decide +kernel
theorem dd_M_workOut_41 : decode c_M_workOut 41 = .ok (.iconst 1, 1) := by decide +kernel
theorem dd_M_workOut_42 : decode c_M_workOut 42 = .ok (.if_icmp .ne 48, 3) := by decide +kernel
theorem dd_M_workOut_45 : decode c_M_workOut 45 = .ok (.aload_n 0, 1) := by decide +kernel
theorem dd_M_workOut_46 : decode c_M_workOut 46 = .ok (.getfield 37, 3) := by decide +kernel
theorem dd_M_workOut_49 : decode c_M_workOut 49 = .ok (.iload 4, 2) := by decide +kernel
theorem dd_M_workOut_51 : decode c_M_workOut 51 = .ok (.aload_n 0, 1) := by decide +kernel
theorem dd_M_workOut_52 : decode c_M_workOut 52 = .ok (.getfield 13, 3) := by decide +kernel
theorem dd_M_workOut_55 : decode c_M_workOut 55 = .ok (.iload 5, 2) := by decide +kernel
theorem dd_M_workOut_57 : decode c_M_workOut 57 = .ok (.iaload, 1) := by decide +kernel
theorem dd_M_workOut_58 : decode c_M_workOut 58 = .ok (.ifCond .ne 13, 3) := by decide +kernel
theorem dd_M_workOut_61 : decode c_M_workOut 61 = .ok (.aload_n 0, 1) := by decide +kernel
theorem dd_M_workOut_62 : decode c_M_workOut 62 = .ok (.getfield 16, 3) := by decide +kernel
theorem dd_M_workOut_65 : decode c_M_workOut 65 = .ok (.iload 5, 2) := by decide +kernel
theorem dd_M_workOut_67 : decode c_M_workOut 67 = .ok (.iaload, 1) := by decide +kernel
theorem dd_M_workOut_68 : decode c_M_workOut 68 = .ok (.goto 15, 3) := by decide +kernel
theorem dd_M_workOut_71 : decode c_M_workOut 71 = .ok (.aload_n 0, 1) := by decide +kernel
theorem dd_M_workOut_72 : decode c_M_workOut 72 = .ok (.getfield 34, 3) := by decide +kernel
theorem dd_M_workOut_75 : decode c_M_workOut 75 = .ok (.aload_n 0, 1) := by decide +kernel
theorem dd_M_workOut_76 : decode c_M_workOut 76 = .ok (.getfield 16, 3) := by decide +kernel
theorem dd_M_workOut_79 : decode c_M_workOut 79 = .ok (.iload 5, 2) := by decide +kernel
theorem dd_M_workOut_81 : decode c_M_workOut 81 = .ok (.iaload, 1) := by decide +kernel
theorem dd_M_workOut_82 : decode c_M_workOut 82 = .ok (.iaload, 1) := by decide +kernel
theorem dd_M_workOut_83 : decode c_M_workOut 83 = .ok (.iastore, 1) := by decide +kernel
theorem dd_M_workOut_84 : decode c_M_workOut 84 = .ok (.iinc 4 1, 3) := by decide +kernel
theorem dd_M_workOut_87 : decode c_M_workOut 87 = .ok (.goto 78, 3) := by decide +kernel
theorem dd_M_workOut_90 : decode c_M_workOut 90 = .ok (.aload_n 0, 1) := by decide +kernel
theorem dd_M_workOut_91 : decode c_M_workOut 91 = .ok (.getfield 13, 3) := by decide +kernel
theorem dd_M_workOut_94 : decode c_M_workOut 94 = .ok (.iload 5, 2) := by decide +kernel
theorem dd_M_workOut_96 : decode c_M_workOut 96 = .ok (.iaload, 1) := by decide +kernel
theorem dd_M_workOut_97 : decode c_M_workOut 97 = .ok (.bipush 9, 2) := by decide +kernel
theorem dd_M_workOut_99 : decode c_M_workOut 99 = .ok (.if_icmp .ne 26, 3) := by decide +kernel
theorem dd_M_workOut_102 : decode c_M_workOut 102 = .ok (.aload_n 0, 1) := by decide +kernel
theorem dd_M_workOut_103 : decode c_M_workOut 103 = .ok (.getfield 37, 3) := by decide +kernel
theorem dd_M_workOut_106 : decode c_M_workOut 106 = .ok (.iload 4, 2) := by decide +kernel
theorem dd_M_workOut_108 : decode c_M_workOut 108 = .ok (.iconst 1, 1) := by decide +kernel
theorem dd_M_workOut_109 : decode c_M_workOut 109 = .ok (.isub, 1) := by decide +kernel
theorem dd_M_workOut_110 : decode c_M_workOut 110 = .ok (.iconst 1, 1) := by decide +kernel
theorem dd_M_workOut_111 : decode c_M_workOut 111 = .ok (.aload_n 0, 1) := by decide +kernel
theorem dd_M_workOut_112 : decode c_M_workOut 112 = .ok (.getfield 37, 3) := by decide +kernel
theorem dd_M_workOut_115 : decode c_M_workOut 115 = .ok (.iload 4, 2) := by decide +kernel
theorem dd_M_workOut_117 : decode c_M_workOut 117 = .ok (.iconst 1, 1) := by decide +kernel
theorem dd_M_workOut_118 : decode c_M_workOut 118 = .ok (.isub, 1) := by decide +kernel
theorem dd_M_workOut_119 : decode c_M_workOut 119 = .ok (.iaload, 1) := by decide +kernel
theorem dd_M_workOut_120 : decode c_M_workOut 120 = .ok (.isub, 1) := by decide +kernel
theorem dd_M_workOut_121 : decode c_M_workOut 121 = .ok (.iastore, 1) := by decide +kernel
theorem dd_M_workOut_122 : decode c_M_workOut 122 = .ok (.goto 43, 3) := by decide +kernel
theorem dd_M_workOut_125 : decode c_M_workOut 125 = .ok (.iinc 4 (-1), 3) := by decide +kernel
theorem dd_M_workOut_128 : decode c_M_workOut 128 = .ok (.aload_n 0, 1) := by decide +kernel
theorem dd_M_workOut_129 : decode c_M_workOut 129 = .ok (.getfield 37, 3) := by decide +kernel
theorem dd_M_workOut_132 : decode c_M_workOut 132 = .ok (.iload 4, 2) := by decide +kernel
theorem dd_M_workOut_134 : decode c_M_workOut 134 = .ok (.iconst 1, 1) := by decide +kernel
theorem dd_M_workOut_135 : decode c_M_workOut 135 = .ok (.isub, 1) := by decide +kernel
theorem dd_M_workOut_136 : decode c_M_workOut 136 = .ok (.aload_n 0, 1) := by decide +kernel
theorem dd_M_workOut_137 : decode c_M_workOut 137 = .ok (.getfield 13, 3) := by decide +kernel
theorem dd_M_workOut_140 : decode c_M_workOut 140 = .ok (.iload 5, 2) := by decide +kernel
theorem dd_M_workOut_142 : decode c_M_workOut 142 = .ok (.iaload, 1) := by decide +kernel
theorem dd_M_workOut_143 : decode c_M_workOut 143 = .ok (.aload_n 0, 1) := by decide +kernel
theorem dd_M_workOut_144 : decode c_M_workOut 144 = .ok (.getfield 37, 3) := by decide +kernel
theorem dd_M_workOut_147 : decode c_M_workOut 147 = .ok (.iload 4, 2) := by decide +kernel
theorem dd_M_workOut_149 : decode c_M_workOut 149 = .ok (.iconst 1, 1) := by decide +kernel
theorem dd_M_workOut_150 : decode c_M_workOut 150 = .ok (.isub, 1) := by decide +kernel
theorem dd_M_workOut_151 : decode c_M_workOut 151 = .ok (.iaload, 1) := by decide +kernel
theorem dd_M_workOut_152 : decode c_M_workOut 152 = .ok (.i2l, 1) := by decide +kernel
theorem dd_M_workOut_153 : decode c_M_workOut 153 = .ok (.aload_n 0, 1) := by decide +kernel
theorem dd_M_workOut_154 : decode c_M_workOut 154 = .ok (.getfield 37, 3) := by decide +kernel
theorem dd_M_workOut_157 : decode c_M_workOut 157 = .ok (.iload 4, 2) := by decide +kernel
theorem dd_M_workOut_159 : decode c_M_workOut 159 = .ok (.iaload, 1) := by decide +kernel
theorem dd_M_workOut_160 : decode c_M_workOut 160 = .ok (.i2l, 1) := by decide +kernel
theorem dd_M_workOut_161 : decode c_M_workOut 161 = .ok (.invokestatic 197, 3) := by decide +kernel
theorem dd_M_workOut_164 : decode c_M_workOut 164 = .ok (.iastore, 1) := by decide +kernel
theorem dd_M_workOut_165 : decode c_M_workOut 165 = .ok (.iinc 5 1, 3) := by decide +kernel
theorem dd_M_workOut_168 : decode c_M_workOut 168 = .ok (.goto (-156), 3) := by decide +kernel
theorem dd_M_workOut_171 : decode c_M_workOut 171 = .ok (.aload_n 0, 1) := by decide +kernel
theorem dd_M_workOut_172 : decode c_M_workOut 172 = .ok (.getfield 37, 3) := by decide +kernel
theorem dd_M_workOut_175 : decode c_M_workOut 175 = .ok (.iconst 0, 1) := by decide +kernel
theorem dd_M_workOut_176 : decode c_M_workOut 176 = .ok (.iaload, 1) := by decide +kernel
theorem dd_M_workOut_177 : decode c_M_workOut 177 = .ok (.ireturn, 1) := by decide +kernel
theorem dd_M_worthOf_0 : decode c_M_worthOf 0 = .ok (.sipush 140, 3) := by decide +kernel
theorem dd_M_worthOf_3 : decode c_M_worthOf 3 = .ok (.iload_n 1, 1) := by decide +kernel
theorem dd_M_worthOf_4 : decode c_M_worthOf 4 = .ok (.imul, 1) := by decide +kernel
theorem dd_M_worthOf_5 : decode c_M_worthOf 5 = .ok (.istore_n 2, 1) := by decide +kernel
theorem dd_M_worthOf_6 : decode c_M_worthOf 6 = .ok (.iload_n 2, 1) := by decide +kernel
theorem dd_M_worthOf_7 : decode c_M_worthOf 7 = .ok (.sipush 140, 3) := by decide +kernel
theorem dd_M_worthOf_10 : decode c_M_worthOf 10 = .ok (.iload_n 1, 1) := by decide +kernel
theorem dd_M_worthOf_11 : decode c_M_worthOf 11 = .ok (.imul, 1) := by decide +kernel
theorem dd_M_worthOf_12 : decode c_M_worthOf 12 = .ok (.aload_n 0, 1) := by decide +kernel
theorem dd_M_worthOf_13 : decode c_M_worthOf 13 = .ok (.getfield 22, 3) := by decide +kernel
theorem dd_M_worthOf_16 : decode c_M_worthOf 16 = .ok (.iload_n 1, 1) := by decide +kernel
theorem dd_M_worthOf_17 : decode c_M_worthOf 17 = .ok (.iaload, 1) := by decide +kernel
theorem dd_M_worthOf_18 : decode c_M_worthOf 18 = .ok (.iadd, 1) := by decide +kernel
theorem dd_M_worthOf_19 : decode c_M_worthOf 19 = .ok (.if_icmp .ge 62, 3) := by decide +kernel
theorem dd_M_worthOf_22 : decode c_M_worthOf 22 = .ok (.aload_n 0, 1) := by decide +kernel
theorem dd_M_worthOf_23 : decode c_M_worthOf 23 = .ok (.getfield 25, 3) := by decide +kernel
theorem dd_M_worthOf_26 : decode c_M_worthOf 26 = .ok (.iload_n 2, 1) := by decide +kernel
theorem dd_M_worthOf_27 : decode c_M_worthOf 27 = .ok (.iaload, 1) := by decide +kernel
theorem dd_M_worthOf_28 : decode c_M_worthOf 28 = .ok (.aload_n 0, 1) := by decide +kernel
theorem dd_M_worthOf_29 : decode c_M_worthOf 29 = .ok (.getfield 28, 3) := by decide +kernel
theorem dd_M_worthOf_32 : decode c_M_worthOf 32 = .ok (.iload_n 2, 1) := by decide +kernel
theorem dd_M_worthOf_33 : decode c_M_worthOf 33 = .ok (.iaload, 1) := by decide +kernel
theorem dd_M_worthOf_34 : decode c_M_worthOf 34 = .ok (.if_icmp .eq 23, 3) := by decide +kernel
theorem dd_M_worthOf_37 : decode c_M_worthOf 37 = .ok (.aload_n 0, 1) := by decide +kernel
theorem dd_M_worthOf_38 : decode c_M_worthOf 38 = .ok (.iload_n 1, 1) := by decide +kernel
theorem dd_M_worthOf_39 : decode c_M_worthOf 39 = .ok (.aload_n 0, 1) := by decide +kernel
theorem dd_M_worthOf_40 : decode c_M_worthOf 40 = .ok (.getfield 25, 3) := by decide +kernel
theorem dd_M_worthOf_43 : decode c_M_worthOf 43 = .ok (.iload_n 2, 1) := by decide +kernel
theorem dd_M_worthOf_44 : decode c_M_worthOf 44 = .ok (.iaload, 1) := by decide +kernel
theorem dd_M_worthOf_45 : decode c_M_worthOf 45 = .ok (.aload_n 0, 1) := by decide +kernel
theorem dd_M_worthOf_46 : decode c_M_worthOf 46 = .ok (.getfield 28, 3) := by decide +kernel
theorem dd_M_worthOf_49 : decode c_M_worthOf 49 = .ok (.iload_n 2, 1) := by decide +kernel
theorem dd_M_worthOf_50 : decode c_M_worthOf 50 = .ok (.iaload, 1) := by decide +kernel
theorem dd_M_worthOf_51 : decode c_M_worthOf 51 = .ok (.invokevirtual 201, 3) := by decide +kernel
theorem dd_M_worthOf_54 : decode c_M_worthOf 54 = .ok (.ifCond .eq 21, 3) := by decide +kernel
theorem dd_M_worthOf_57 : decode c_M_worthOf 57 = .ok (.aload_n 0, 1) := by decide +kernel
theorem dd_M_worthOf_58 : decode c_M_worthOf 58 = .ok (.iload_n 1, 1) := by decide +kernel
theorem dd_M_worthOf_59 : decode c_M_worthOf 59 = .ok (.aload_n 0, 1) := by decide +kernel
theorem dd_M_worthOf_60 : decode c_M_worthOf 60 = .ok (.getfield 28, 3) := by decide +kernel
theorem dd_M_worthOf_63 : decode c_M_worthOf 63 = .ok (.iload_n 2, 1) := by decide +kernel
theorem dd_M_worthOf_64 : decode c_M_worthOf 64 = .ok (.iaload, 1) := by decide +kernel
theorem dd_M_worthOf_65 : decode c_M_worthOf 65 = .ok (.aload_n 0, 1) := by decide +kernel
theorem dd_M_worthOf_66 : decode c_M_worthOf 66 = .ok (.getfield 31, 3) := by decide +kernel
theorem dd_M_worthOf_69 : decode c_M_worthOf 69 = .ok (.iload_n 2, 1) := by decide +kernel
theorem dd_M_worthOf_70 : decode c_M_worthOf 70 = .ok (.iaload, 1) := by decide +kernel
theorem dd_M_worthOf_71 : decode c_M_worthOf 71 = .ok (.invokevirtual 201, 3) := by decide +kernel
theorem dd_M_worthOf_74 : decode c_M_worthOf 74 = .ok (.ireturn, 1) := by decide +kernel
theorem dd_M_worthOf_75 : decode c_M_worthOf 75 = .ok (.iinc 2 1, 3) := by decide +kernel
theorem dd_M_worthOf_78 : decode c_M_worthOf 78 = .ok (.goto (-72), 3) := by decide +kernel
theorem dd_M_worthOf_81 : decode c_M_worthOf 81 = .ok (.iconst 0, 1) := by decide +kernel
theorem dd_M_worthOf_82 : decode c_M_worthOf 82 = .ok (.ireturn, 1) := by decide +kernel
theorem dd_M_nightsBy_0 : decode c_M_nightsBy 0 = .ok (.iload 4, 2) := by decide +kernel
theorem dd_M_nightsBy_2 : decode c_M_nightsBy 2 = .ok (.aload_n 0, 1) := by decide +kernel
theorem dd_M_nightsBy_3 : decode c_M_nightsBy 3 = .ok (.getfield 49, 3) := by decide +kernel
theorem dd_M_nightsBy_6 : decode c_M_nightsBy 6 = .ok (.iconst 3, 1) := by decide +kernel
theorem dd_M_nightsBy_7 : decode c_M_nightsBy 7 = .ok (.iaload, 1) := by decide +kernel
theorem dd_M_nightsBy_8 : decode c_M_nightsBy 8 = .ok (.if_icmp .ge 12, 3) := by decide +kernel
theorem dd_M_nightsBy_11 : decode c_M_nightsBy 11 = .ok (.aload_n 0, 1) := by decide +kernel
theorem dd_M_nightsBy_12 : decode c_M_nightsBy 12 = .ok (.iload_n 2, 1) := by decide +kernel
theorem dd_M_nightsBy_13 : decode c_M_nightsBy 13 = .ok (.iconst 0, 1) := by decide +kernel
theorem dd_M_nightsBy_14 : decode c_M_nightsBy 14 = .ok (.invokevirtual 248, 3) := by decide +kernel
theorem dd_M_nightsBy_17 : decode c_M_nightsBy 17 = .ok (.goto 4, 3) := by decide +kernel
theorem dd_M_nightsBy_20 : decode c_M_nightsBy 20 = .ok (.iconst 0, 1) := by decide +kernel
theorem dd_M_nightsBy_21 : decode c_M_nightsBy 21 = .ok (.iload_n 3, 1) := by decide +kernel
theorem dd_M_nightsBy_22 : decode c_M_nightsBy 22 = .ok (.iadd, 1) := by decide +kernel
theorem dd_M_nightsBy_23 : decode c_M_nightsBy 23 = .ok (.aload_n 0, 1) := by decide +kernel
theorem dd_M_nightsBy_24 : decode c_M_nightsBy 24 = .ok (.iload_n 1, 1) := by decide +kernel
theorem dd_M_nightsBy_25 : decode c_M_nightsBy 25 = .ok (.iconst 1, 1) := by decide +kernel
theorem dd_M_nightsBy_26 : decode c_M_nightsBy 26 = .ok (.invokevirtual 251, 3) := by decide +kernel
theorem dd_M_nightsBy_29 : decode c_M_nightsBy 29 = .ok (.iconst 3, 1) := by decide +kernel
theorem dd_M_nightsBy_30 : decode c_M_nightsBy 30 = .ok (.idiv, 1) := by decide +kernel
theorem dd_M_nightsBy_31 : decode c_M_nightsBy 31 = .ok (.iadd, 1) := by decide +kernel
theorem dd_M_nightsBy_32 : decode c_M_nightsBy 32 = .ok (.iconst 2, 1) := by decide +kernel
theorem dd_M_nightsBy_33 : decode c_M_nightsBy 33 = .ok (.aload_n 0, 1) := by decide +kernel
theorem dd_M_nightsBy_34 : decode c_M_nightsBy 34 = .ok (.iload_n 2, 1) := by decide +kernel
theorem dd_M_nightsBy_35 : decode c_M_nightsBy 35 = .ok (.iconst 2, 1) := by decide +kernel
theorem dd_M_nightsBy_36 : decode c_M_nightsBy 36 = .ok (.invokevirtual 248, 3) := by decide +kernel
theorem dd_M_nightsBy_39 : decode c_M_nightsBy 39 = .ok (.imul, 1) := by decide +kernel
theorem dd_M_nightsBy_40 : decode c_M_nightsBy 40 = .ok (.iadd, 1) := by decide +kernel
theorem dd_M_nightsBy_41 : decode c_M_nightsBy 41 = .ok (.iload 4, 2) := by decide +kernel
theorem dd_M_nightsBy_43 : decode c_M_nightsBy 43 = .ok (.isub, 1) := by decide +kernel
theorem dd_M_nightsBy_44 : decode c_M_nightsBy 44 = .ok (.istore 5, 2) := by decide +kernel
theorem dd_M_nightsBy_46 : decode c_M_nightsBy 46 = .ok (.aload_n 0, 1) := by decide +kernel
theorem dd_M_nightsBy_47 : decode c_M_nightsBy 47 = .ok (.getfield 64, 3) := by decide +kernel
theorem dd_M_nightsBy_50 : decode c_M_nightsBy 50 = .ok (.iconst (-1), 1) := by decide +kernel
theorem dd_M_nightsBy_51 : decode c_M_nightsBy 51 = .ok (.if_icmp .eq 76, 3) := by decide +kernel
theorem dd_M_nightsBy_54 : decode c_M_nightsBy 54 = .ok (.aload_n 0, 1) := by decide +kernel
theorem dd_M_nightsBy_55 : decode c_M_nightsBy 55 = .ok (.getfield 34, 3) := by decide +kernel
theorem dd_M_nightsBy_58 : decode c_M_nightsBy 58 = .ok (.iconst 0, 1) := by decide +kernel
theorem dd_M_nightsBy_59 : decode c_M_nightsBy 59 = .ok (.aload_n 0, 1) := by decide +kernel
theorem dd_M_nightsBy_60 : decode c_M_nightsBy 60 = .ok (.iload_n 2, 1) := by decide +kernel
theorem dd_M_nightsBy_61 : decode c_M_nightsBy 61 = .ok (.iconst 0, 1) := by decide +kernel
theorem dd_M_nightsBy_62 : decode c_M_nightsBy 62 = .ok (.invokevirtual 248, 3) := by decide +kernel
theorem dd_M_nightsBy_65 : decode c_M_nightsBy 65 = .ok (.iastore, 1) := by decide +kernel
theorem dd_M_nightsBy_66 : decode c_M_nightsBy 66 = .ok (.aload_n 0, 1) := by decide +kernel
theorem dd_M_nightsBy_67 : decode c_M_nightsBy 67 = .ok (.getfield 34, 3) := by decide +kernel
theorem dd_M_nightsBy_70 : decode c_M_nightsBy 70 = .ok (.iconst 1, 1) := by decide +kernel
theorem dd_M_nightsBy_71 : decode c_M_nightsBy 71 = .ok (.iload_n 3, 1) := by decide +kernel
theorem dd_M_nightsBy_72 : decode c_M_nightsBy 72 = .ok (.iastore, 1) := by decide +kernel
theorem dd_M_nightsBy_73 : decode c_M_nightsBy 73 = .ok (.aload_n 0, 1) := by decide +kernel
theorem dd_M_nightsBy_74 : decode c_M_nightsBy 74 = .ok (.getfield 34, 3) := by decide +kernel
theorem dd_M_nightsBy_77 : decode c_M_nightsBy 77 = .ok (.iconst 2, 1) := by decide +kernel
theorem dd_M_nightsBy_78 : decode c_M_nightsBy 78 = .ok (.aload_n 0, 1) := by decide +kernel
theorem dd_M_nightsBy_79 : decode c_M_nightsBy 79 = .ok (.iload_n 1, 1) := by decide +kernel
theorem dd_M_nightsBy_80 : decode c_M_nightsBy 80 = .ok (.iconst 1, 1) := by decide +kernel
theorem dd_M_nightsBy_81 : decode c_M_nightsBy 81 = .ok (.invokevirtual 251, 3) := by decide +kernel
theorem dd_M_nightsBy_84 : decode c_M_nightsBy 84 = .ok (.iastore, 1) := by decide +kernel
theorem dd_M_nightsBy_85 : decode c_M_nightsBy 85 = .ok (.aload_n 0, 1) := by decide +kernel
theorem dd_M_nightsBy_86 : decode c_M_nightsBy 86 = .ok (.getfield 34, 3) := by decide +kernel
theorem dd_M_nightsBy_89 : decode c_M_nightsBy 89 = .ok (.iconst 3, 1) := by decide +kernel
theorem dd_M_nightsBy_90 : decode c_M_nightsBy 90 = .ok (.iload 4, 2) := by decide +kernel
theorem dd_M_nightsBy_92 : decode c_M_nightsBy 92 = .ok (.iastore, 1) := by decide +kernel
theorem dd_M_nightsBy_93 : decode c_M_nightsBy 93 = .ok (.aload_n 0, 1) := by decide +kernel
theorem dd_M_nightsBy_94 : decode c_M_nightsBy 94 = .ok (.getfield 34, 3) := by decide +kernel
theorem dd_M_nightsBy_97 : decode c_M_nightsBy 97 = .ok (.iconst 4, 1) := by decide +kernel
theorem dd_M_nightsBy_98 : decode c_M_nightsBy 98 = .ok (.aload_n 0, 1) := by decide +kernel
theorem dd_M_nightsBy_99 : decode c_M_nightsBy 99 = .ok (.iload_n 1, 1) := by decide +kernel
theorem dd_M_nightsBy_100 : decode c_M_nightsBy 100 = .ok (.iconst 2, 1) := by decide +kernel
theorem dd_M_nightsBy_101 : decode c_M_nightsBy 101 = .ok (.invokevirtual 251, 3) := by decide +kernel
theorem dd_M_nightsBy_104 : decode c_M_nightsBy 104 = .ok (.iastore, 1) := by decide +kernel
theorem dd_M_nightsBy_105 : decode c_M_nightsBy 105 = .ok (.aload_n 0, 1) := by decide +kernel
theorem dd_M_nightsBy_106 : decode c_M_nightsBy 106 = .ok (.getfield 34, 3) := by decide +kernel
theorem dd_M_nightsBy_109 : decode c_M_nightsBy 109 = .ok (.iconst 5, 1) := by decide +kernel
theorem dd_M_nightsBy_110 : decode c_M_nightsBy 110 = .ok (.aload_n 0, 1) := by decide +kernel
theorem dd_M_nightsBy_111 : decode c_M_nightsBy 111 = .ok (.iload_n 2, 1) := by decide +kernel
theorem dd_M_nightsBy_112 : decode c_M_nightsBy 112 = .ok (.iconst 2, 1) := by decide +kernel
theorem dd_M_nightsBy_113 : decode c_M_nightsBy 113 = .ok (.invokevirtual 248, 3) := by decide +kernel
theorem dd_M_nightsBy_116 : decode c_M_nightsBy 116 = .ok (.iastore, 1) := by decide +kernel
theorem dd_M_nightsBy_117 : decode c_M_nightsBy 117 = .ok (.aload_n 0, 1) := by decide +kernel
theorem dd_M_nightsBy_118 : decode c_M_nightsBy 118 = .ok (.aload_n 0, 1) := by decide +kernel
theorem dd_M_nightsBy_119 : decode c_M_nightsBy 119 = .ok (.getfield 64, 3) := by decide +kernel
theorem dd_M_nightsBy_122 : decode c_M_nightsBy 122 = .ok (.invokevirtual 270, 3) := by decide +kernel
theorem dd_M_nightsBy_125 : decode c_M_nightsBy 125 = .ok (.istore 5, 2) := by decide +kernel
theorem dd_M_nightsBy_127 : decode c_M_nightsBy 127 = .ok (.iconst 0, 1) := by decide +kernel
theorem dd_M_nightsBy_128 : decode c_M_nightsBy 128 = .ok (.bipush 20, 2) := by decide +kernel
theorem dd_M_nightsBy_130 : decode c_M_nightsBy 130 = .ok (.iload 5, 2) := by decide +kernel
theorem dd_M_nightsBy_132 : decode c_M_nightsBy 132 = .ok (.invokestatic 273, 3) := by decide +kernel
theorem dd_M_nightsBy_135 : decode c_M_nightsBy 135 = .ok (.invokestatic 275, 3) := by decide +kernel
theorem dd_M_nightsBy_138 : decode c_M_nightsBy 138 = .ok (.ireturn, 1) := by decide +kernel
theorem dd_M_nightsNow_0 : decode c_M_nightsNow 0 = .ok (.aload_n 0, 1) := by decide +kernel
theorem dd_M_nightsNow_1 : decode c_M_nightsNow 1 = .ok (.iload_n 1, 1) := by decide +kernel
theorem dd_M_nightsNow_2 : decode c_M_nightsNow 2 = .ok (.iload_n 2, 1) := by decide +kernel
theorem dd_M_nightsNow_3 : decode c_M_nightsNow 3 = .ok (.aload_n 0, 1) := by decide +kernel
theorem dd_M_nightsNow_4 : decode c_M_nightsNow 4 = .ok (.getfield 58, 3) := by decide +kernel
theorem dd_M_nightsNow_7 : decode c_M_nightsNow 7 = .ok (.bipush 36, 2) := by decide +kernel
theorem dd_M_nightsNow_9 : decode c_M_nightsNow 9 = .ok (.iload_n 2, 1) := by decide +kernel
theorem dd_M_nightsNow_10 : decode c_M_nightsNow 10 = .ok (.iadd, 1) := by decide +kernel
theorem dd_M_nightsNow_11 : decode c_M_nightsNow 11 = .ok (.iaload, 1) := by decide +kernel
theorem dd_M_nightsNow_12 : decode c_M_nightsNow 12 = .ok (.aload_n 0, 1) := by decide +kernel
theorem dd_M_nightsNow_13 : decode c_M_nightsNow 13 = .ok (.iload_n 1, 1) := by decide +kernel
theorem dd_M_nightsNow_14 : decode c_M_nightsNow 14 = .ok (.iload_n 2, 1) := by decide +kernel
theorem dd_M_nightsNow_15 : decode c_M_nightsNow 15 = .ok (.invokevirtual 277, 3) := by decide +kernel
theorem dd_M_nightsNow_18 : decode c_M_nightsNow 18 = .ok (.invokevirtual 280, 3) := by decide +kernel
theorem dd_M_nightsNow_21 : decode c_M_nightsNow 21 = .ok (.ireturn, 1) := by decide +kernel
theorem dd_M_nights_0 : decode c_M_nights 0 = .ok (.aload_n 0, 1) := by decide +kernel
theorem dd_M_nights_1 : decode c_M_nights 1 = .ok (.iload_n 1, 1) := by decide +kernel
theorem dd_M_nights_2 : decode c_M_nights 2 = .ok (.invokevirtual 300, 3) := by decide +kernel
theorem dd_M_nights_5 : decode c_M_nights 5 = .ok (.ifCond .eq 20, 3) := by decide +kernel
theorem dd_M_nights_8 : decode c_M_nights 8 = .ok (.aload_n 0, 1) := by decide +kernel
theorem dd_M_nights_9 : decode c_M_nights 9 = .ok (.iload_n 2, 1) := by decide +kernel
theorem dd_M_nights_10 : decode c_M_nights 10 = .ok (.invokevirtual 306, 3) := by decide +kernel
theorem dd_M_nights_13 : decode c_M_nights 13 = .ok (.ifCond .eq 12, 3) := by decide +kernel
theorem dd_M_nights_16 : decode c_M_nights 16 = .ok (.aload_n 0, 1) := by decide +kernel
theorem dd_M_nights_17 : decode c_M_nights 17 = .ok (.iload_n 1, 1) := by decide +kernel
theorem dd_M_nights_18 : decode c_M_nights 18 = .ok (.iload_n 2, 1) := by decide +kernel
theorem dd_M_nights_19 : decode c_M_nights 19 = .ok (.invokevirtual 284, 3) := by decide +kernel
theorem dd_M_nights_22 : decode c_M_nights 22 = .ok (.goto 4, 3) := by decide +kernel
theorem dd_M_nights_25 : decode c_M_nights 25 = .ok (.iconst (-1), 1) := by decide +kernel
theorem dd_M_nights_26 : decode c_M_nights 26 = .ok (.ireturn, 1) := by decide +kernel
theorem dd_W_law_0 : decode c_W_law 0 = .ok (.iload_n 1, 1) := by decide +kernel
theorem dd_W_law_1 : decode c_W_law 1 = .ok (.iconst (-1), 1) := by decide +kernel
theorem dd_W_law_2 : decode c_W_law 2 = .ok (.if_icmp .lt 14, 3) := by decide +kernel
theorem dd_W_law_5 : decode c_W_law 5 = .ok (.iload_n 1, 1) := by decide +kernel
theorem dd_W_law_6 : decode c_W_law 6 = .ok (.aload_n 0, 1) := by decide +kernel
theorem dd_W_law_7 : decode c_W_law 7 = .ok (.getfield 35, 3) := by decide +kernel
theorem dd_W_law_10 : decode c_W_law 10 = .ok (.getfield 124, 3) := by decide +kernel
theorem dd_W_law_13 : decode c_W_law 13 = .ok (.if_icmp .lt 5, 3) := by decide +kernel
theorem dd_W_law_16 : decode c_W_law 16 = .ok (.iconst 0, 1) := by decide +kernel
theorem dd_W_law_17 : decode c_W_law 17 = .ok (.ireturn, 1) := by decide +kernel
theorem dd_W_law_18 : decode c_W_law 18 = .ok (.aload_n 0, 1) := by decide +kernel
theorem dd_W_law_19 : decode c_W_law 19 = .ok (.getfield 35, 3) := by decide +kernel
theorem dd_W_law_22 : decode c_W_law 22 = .ok (.iload_n 1, 1) := by decide +kernel
theorem dd_W_law_23 : decode c_W_law 23 = .ok (.putfield 192, 3) := by decide +kernel
theorem dd_W_law_26 : decode c_W_law 26 = .ok (.iconst 1, 1) := by decide +kernel
theorem dd_W_law_27 : decode c_W_law 27 = .ok (.ireturn, 1) := by decide +kernel
theorem dd_M_law_0 : decode c_M_law 0 = .ok (.iload_n 1, 1) := by decide +kernel
theorem dd_M_law_1 : decode c_M_law 1 = .ok (.iconst (-1), 1) := by decide +kernel
theorem dd_M_law_2 : decode c_M_law 2 = .ok (.aload_n 0, 1) := by decide +kernel
theorem dd_M_law_3 : decode c_M_law 3 = .ok (.getfield 267, 3) := by decide +kernel
theorem dd_M_law_6 : decode c_M_law 6 = .ok (.iconst 1, 1) := by decide +kernel
theorem dd_M_law_7 : decode c_M_law 7 = .ok (.isub, 1) := by decide +kernel
theorem dd_M_law_8 : decode c_M_law 8 = .ok (.invokestatic 205, 3) := by decide +kernel
theorem dd_M_law_11 : decode c_M_law 11 = .ok (.ifCond .ne 5, 3) := by decide +kernel
theorem dd_M_law_14 : decode c_M_law 14 = .ok (.iconst 0, 1) := by decide +kernel
theorem dd_M_law_15 : decode c_M_law 15 = .ok (.ireturn, 1) := by decide +kernel
theorem dd_M_law_16 : decode c_M_law 16 = .ok (.aload_n 0, 1) := by decide +kernel
theorem dd_M_law_17 : decode c_M_law 17 = .ok (.iload_n 1, 1) := by decide +kernel
theorem dd_M_law_18 : decode c_M_law 18 = .ok (.putfield 64, 3) := by decide +kernel
theorem dd_M_law_21 : decode c_M_law 21 = .ok (.iconst 1, 1) := by decide +kernel
theorem dd_M_law_22 : decode c_M_law 22 = .ok (.ireturn, 1) := by decide +kernel
theorem dd_Stand_owns_0 : decode c_Stand_owns 0 = .ok (.aload_n 0, 1) := by decide +kernel
theorem dd_Stand_owns_1 : decode c_Stand_owns 1 = .ok (.getfield 37, 3) := by decide +kernel
theorem dd_Stand_owns_4 : decode c_Stand_owns 4 = .ok (.iload_n 1, 1) := by decide +kernel
theorem dd_Stand_owns_5 : decode c_Stand_owns 5 = .ok (.ishr, 1) := by decide +kernel
theorem dd_Stand_owns_6 : decode c_Stand_owns 6 = .ok (.iconst 1, 1) := by decide +kernel
theorem dd_Stand_owns_7 : decode c_Stand_owns 7 = .ok (.iand, 1) := by decide +kernel
theorem dd_Stand_owns_8 : decode c_Stand_owns 8 = .ok (.ifCond .eq 7, 3) := by decide +kernel
theorem dd_Stand_owns_11 : decode c_Stand_owns 11 = .ok (.iconst 1, 1) := by decide +kernel
theorem dd_Stand_owns_12 : decode c_Stand_owns 12 = .ok (.goto 4, 3) := by decide +kernel
theorem dd_Stand_owns_15 : decode c_Stand_owns 15 = .ok (.iconst 0, 1) := by decide +kernel
theorem dd_Stand_owns_16 : decode c_Stand_owns 16 = .ok (.ireturn, 1) := by decide +kernel
theorem dd_Stand_daysOf_0 : decode c_Stand_daysOf 0 = .ok (.iload_n 0, 1) := by decide +kernel
theorem dd_Stand_daysOf_1 : decode c_Stand_daysOf 1 = .ok (.iconst 1, 1) := by decide +kernel
theorem dd_Stand_daysOf_2 : decode c_Stand_daysOf 2 = .ok (.invokestatic 87, 3) := by decide +kernel
theorem dd_Stand_daysOf_5 : decode c_Stand_daysOf 5 = .ok (.ireturn, 1) := by decide +kernel
theorem dd_Stand_hasDays_0 : decode c_Stand_hasDays 0 = .ok (.aload_n 0, 1) := by decide +kernel
theorem dd_Stand_hasDays_1 : decode c_Stand_hasDays 1 = .ok (.getfield 42, 3) := by decide +kernel
theorem dd_Stand_hasDays_4 : decode c_Stand_hasDays 4 = .ok (.iload_n 1, 1) := by decide +kernel
theorem dd_Stand_hasDays_5 : decode c_Stand_hasDays 5 = .ok (.iadd, 1) := by decide +kernel
theorem dd_Stand_hasDays_6 : decode c_Stand_hasDays 6 = .ok (.sipush 9999, 3) := by decide +kernel
theorem dd_Stand_hasDays_9 : decode c_Stand_hasDays 9 = .ok (.if_icmp .gt 7, 3) := by decide +kernel
theorem dd_Stand_hasDays_12 : decode c_Stand_hasDays 12 = .ok (.iconst 1, 1) := by decide +kernel
theorem dd_Stand_hasDays_13 : decode c_Stand_hasDays 13 = .ok (.goto 4, 3) := by decide +kernel
theorem dd_Stand_hasDays_16 : decode c_Stand_hasDays 16 = .ok (.iconst 0, 1) := by decide +kernel
theorem dd_Stand_hasDays_17 : decode c_Stand_hasDays 17 = .ok (.ireturn, 1) := by decide +kernel
theorem dd_Stand_save_0 : decode c_Stand_save 0 = .ok (.aload_n 1, 1) := by decide +kernel
theorem dd_Stand_save_1 : decode c_Stand_save 1 = .ok (.iload_n 2, 1) := by decide +kernel
theorem dd_Stand_save_2 : decode c_Stand_save 2 = .ok (.aload_n 0, 1) := by decide +kernel
theorem dd_Stand_save_3 : decode c_Stand_save 3 = .ok (.getfield 29, 3) := by decide +kernel
theorem dd_Stand_save_6 : decode c_Stand_save 6 = .ok (.iastore, 1) := by decide +kernel
theorem dd_Stand_save_7 : decode c_Stand_save 7 = .ok (.aload_n 1, 1) := by decide +kernel
theorem dd_Stand_save_8 : decode c_Stand_save 8 = .ok (.iload_n 2, 1) := by decide +kernel
theorem dd_Stand_save_9 : decode c_Stand_save 9 = .ok (.iconst 1, 1) := by decide +kernel
theorem dd_Stand_save_10 : decode c_Stand_save 10 = .ok (.iadd, 1) := by decide +kernel
theorem dd_Stand_save_11 : decode c_Stand_save 11 = .ok (.aload_n 0, 1) := by decide +kernel
theorem dd_Stand_save_12 : decode c_Stand_save 12 = .ok (.getfield 37, 3) := by decide +kernel
theorem dd_Stand_save_15 : decode c_Stand_save 15 = .ok (.iastore, 1) := by decide +kernel
theorem dd_Stand_save_16 : decode c_Stand_save 16 = .ok (.aload_n 1, 1) := by decide +kernel
theorem dd_Stand_save_17 : decode c_Stand_save 17 = .ok (.iload_n 2, 1) := by decide +kernel
theorem dd_Stand_save_18 : decode c_Stand_save 18 = .ok (.iconst 2, 1) := by decide +kernel
theorem dd_Stand_save_19 : decode c_Stand_save 19 = .ok (.iadd, 1) := by decide +kernel
theorem dd_Stand_save_20 : decode c_Stand_save 20 = .ok (.aload_n 0, 1) := by decide +kernel
theorem dd_Stand_save_21 : decode c_Stand_save 21 = .ok (.getfield 41, 3) := by decide +kernel
theorem dd_Stand_save_24 : decode c_Stand_save 24 = .ok (.iastore, 1) := by decide +kernel
theorem dd_Stand_save_25 : decode c_Stand_save 25 = .ok (.aload_n 1, 1) := by decide +kernel
theorem dd_Stand_save_26 : decode c_Stand_save 26 = .ok (.iload_n 2, 1) := by decide +kernel
theorem dd_Stand_save_27 : decode c_Stand_save 27 = .ok (.iconst 3, 1) := by decide +kernel
theorem dd_Stand_save_28 : decode c_Stand_save 28 = .ok (.iadd, 1) := by decide +kernel
theorem dd_Stand_save_29 : decode c_Stand_save 29 = .ok (.aload_n 0, 1) := by decide +kernel
theorem dd_Stand_save_30 : decode c_Stand_save 30 = .ok (.getfield 42, 3) := by decide +kernel
theorem dd_Stand_save_33 : decode c_Stand_save 33 = .ok (.iastore, 1) := by decide +kernel
theorem dd_Stand_save_34 : decode c_Stand_save 34 = .ok (.aload_n 1, 1) := by decide +kernel
theorem dd_Stand_save_35 : decode c_Stand_save 35 = .ok (.iload_n 2, 1) := by decide +kernel
theorem dd_Stand_save_36 : decode c_Stand_save 36 = .ok (.iconst 4, 1) := by decide +kernel
theorem dd_Stand_save_37 : decode c_Stand_save 37 = .ok (.iadd, 1) := by decide +kernel
theorem dd_Stand_save_38 : decode c_Stand_save 38 = .ok (.aload_n 0, 1) := by decide +kernel
theorem dd_Stand_save_39 : decode c_Stand_save 39 = .ok (.getfield 45, 3) := by decide +kernel
theorem dd_Stand_save_42 : decode c_Stand_save 42 = .ok (.iastore, 1) := by decide +kernel
theorem dd_Stand_save_43 : decode c_Stand_save 43 = .ok (.aload_n 1, 1) := by decide +kernel
theorem dd_Stand_save_44 : decode c_Stand_save 44 = .ok (.iload_n 2, 1) := by decide +kernel
theorem dd_Stand_save_45 : decode c_Stand_save 45 = .ok (.iconst 5, 1) := by decide +kernel
theorem dd_Stand_save_46 : decode c_Stand_save 46 = .ok (.iadd, 1) := by decide +kernel
theorem dd_Stand_save_47 : decode c_Stand_save 47 = .ok (.aload_n 0, 1) := by decide +kernel
theorem dd_Stand_save_48 : decode c_Stand_save 48 = .ok (.getfield 48, 3) := by decide +kernel
theorem dd_Stand_save_51 : decode c_Stand_save 51 = .ok (.iastore, 1) := by decide +kernel
theorem dd_Stand_save_52 : decode c_Stand_save 52 = .ok (.aload_n 1, 1) := by decide +kernel
theorem dd_Stand_save_53 : decode c_Stand_save 53 = .ok (.iload_n 2, 1) := by decide +kernel
theorem dd_Stand_save_54 : decode c_Stand_save 54 = .ok (.bipush 6, 2) := by decide +kernel
theorem dd_Stand_save_56 : decode c_Stand_save 56 = .ok (.iadd, 1) := by decide +kernel
theorem dd_Stand_save_57 : decode c_Stand_save 57 = .ok (.aload_n 0, 1) := by decide +kernel
theorem dd_Stand_save_58 : decode c_Stand_save 58 = .ok (.getfield 51, 3) := by decide +kernel
theorem dd_Stand_save_61 : decode c_Stand_save 61 = .ok (.iastore, 1) := by decide +kernel
theorem dd_Stand_save_62 : decode c_Stand_save 62 = .ok (.aload_n 0, 1) := by decide +kernel
theorem dd_Stand_save_63 : decode c_Stand_save 63 = .ok (.getfield 13, 3) := by decide +kernel
theorem dd_Stand_save_66 : decode c_Stand_save 66 = .ok (.iconst 0, 1) := by decide +kernel
theorem dd_Stand_save_67 : decode c_Stand_save 67 = .ok (.aload_n 1, 1) := by decide +kernel
theorem dd_Stand_save_68 : decode c_Stand_save 68 = .ok (.iload_n 2, 1) := by decide +kernel
theorem dd_Stand_save_69 : decode c_Stand_save 69 = .ok (.bipush 7, 2) := by decide +kernel
theorem dd_Stand_save_71 : decode c_Stand_save 71 = .ok (.iadd, 1) := by decide +kernel
theorem dd_Stand_save_72 : decode c_Stand_save 72 = .ok (.bipush 6, 2) := by decide +kernel
theorem dd_Stand_save_74 : decode c_Stand_save 74 = .ok (.invokestatic 55, 3) := by decide +kernel
theorem dd_Stand_save_77 : decode c_Stand_save 77 = .ok (.aload_n 0, 1) := by decide +kernel
theorem dd_Stand_save_78 : decode c_Stand_save 78 = .ok (.getfield 17, 3) := by decide +kernel
theorem dd_Stand_save_81 : decode c_Stand_save 81 = .ok (.iconst 0, 1) := by decide +kernel
theorem dd_Stand_save_82 : decode c_Stand_save 82 = .ok (.aload_n 1, 1) := by decide +kernel
theorem dd_Stand_save_83 : decode c_Stand_save 83 = .ok (.iload_n 2, 1) := by decide +kernel
theorem dd_Stand_save_84 : decode c_Stand_save 84 = .ok (.bipush 7, 2) := by decide +kernel
theorem dd_Stand_save_86 : decode c_Stand_save 86 = .ok (.iadd, 1) := by decide +kernel
theorem dd_Stand_save_87 : decode c_Stand_save 87 = .ok (.bipush 6, 2) := by decide +kernel
theorem dd_Stand_save_89 : decode c_Stand_save 89 = .ok (.iadd, 1) := by decide +kernel
theorem dd_Stand_save_90 : decode c_Stand_save 90 = .ok (.bipush 36, 2) := by decide +kernel
theorem dd_Stand_save_92 : decode c_Stand_save 92 = .ok (.invokestatic 55, 3) := by decide +kernel
theorem dd_Stand_save_95 : decode c_Stand_save 95 = .ok (.return_, 1) := by decide +kernel
theorem dd_Past_keep_0 : decode c_Past_keep 0 = .ok (.aload_n 1, 1) := by decide +kernel
theorem dd_Past_keep_1 : decode c_Past_keep 1 = .ok (.aload_n 0, 1) := by decide +kernel
theorem dd_Past_keep_2 : decode c_Past_keep 2 = .ok (.getfield 11, 3) := by decide +kernel
theorem dd_Past_keep_5 : decode c_Past_keep 5 = .ok (.aload_n 0, 1) := by decide +kernel
theorem dd_Past_keep_6 : decode c_Past_keep 6 = .ok (.getfield 29, 3) := by decide +kernel
theorem dd_Past_keep_9 : decode c_Past_keep 9 = .ok (.bipush 49, 2) := by decide +kernel
theorem dd_Past_keep_11 : decode c_Past_keep 11 = .ok (.imul, 1) := by decide +kernel
theorem dd_Past_keep_12 : decode c_Past_keep 12 = .ok (.invokevirtual 32, 3) := by decide +kernel
theorem dd_Past_keep_15 : decode c_Past_keep 15 = .ok (.aload_n 0, 1) := by decide +kernel
theorem dd_Past_keep_16 : decode c_Past_keep 16 = .ok (.aload_n 0, 1) := by decide +kernel
theorem dd_Past_keep_17 : decode c_Past_keep 17 = .ok (.getfield 29, 3) := by decide +kernel
theorem dd_Past_keep_20 : decode c_Past_keep 20 = .ok (.iconst 1, 1) := by decide +kernel
theorem dd_Past_keep_21 : decode c_Past_keep 21 = .ok (.iadd, 1) := by decide +kernel
theorem dd_Past_keep_22 : decode c_Past_keep 22 = .ok (.bipush 40, 2) := by decide +kernel
theorem dd_Past_keep_24 : decode c_Past_keep 24 = .ok (.irem, 1) := by decide +kernel
theorem dd_Past_keep_25 : decode c_Past_keep 25 = .ok (.putfield 29, 3) := by decide +kernel
theorem dd_Past_keep_28 : decode c_Past_keep 28 = .ok (.aload_n 0, 1) := by decide +kernel
theorem dd_Past_keep_29 : decode c_Past_keep 29 = .ok (.aload_n 0, 1) := by decide +kernel
theorem dd_Past_keep_30 : decode c_Past_keep 30 = .ok (.getfield 21, 3) := by decide +kernel
theorem dd_Past_keep_33 : decode c_Past_keep 33 = .ok (.iconst 1, 1) := by decide +kernel
theorem dd_Past_keep_34 : decode c_Past_keep 34 = .ok (.iadd, 1) := by decide +kernel
theorem dd_Past_keep_35 : decode c_Past_keep 35 = .ok (.bipush 40, 2) := by decide +kernel
theorem dd_Past_keep_37 : decode c_Past_keep 37 = .ok (.invokestatic 36, 3) := by decide +kernel
theorem dd_Past_keep_40 : decode c_Past_keep 40 = .ok (.putfield 21, 3) := by decide +kernel
theorem dd_Past_keep_43 : decode c_Past_keep 43 = .ok (.return_, 1) := by decide +kernel
theorem dd_Stand_heardOnceMore_0 : decode c_Stand_heardOnceMore 0 = .ok (.iload_n 0, 1) := by decide +kernel
theorem dd_Stand_heardOnceMore_1 : decode c_Stand_heardOnceMore 1 = .ok (.iconst 1, 1) := by decide +kernel
theorem dd_Stand_heardOnceMore_2 : decode c_Stand_heardOnceMore 2 = .ok (.iadd, 1) := by decide +kernel
theorem dd_Stand_heardOnceMore_3 : decode c_Stand_heardOnceMore 3 = .ok (.bipush 99, 2) := by decide +kernel
theorem dd_Stand_heardOnceMore_5 : decode c_Stand_heardOnceMore 5 = .ok (.invokestatic 83, 3) := by decide +kernel
theorem dd_Stand_heardOnceMore_8 : decode c_Stand_heardOnceMore 8 = .ok (.ireturn, 1) := by decide +kernel
theorem dd_Stand_breadAfter_0 : decode c_Stand_breadAfter 0 = .ok (.iload_n 1, 1) := by decide +kernel
theorem dd_Stand_breadAfter_1 : decode c_Stand_breadAfter 1 = .ok (.ifCond .ne 13, 3) := by decide +kernel
theorem dd_Stand_breadAfter_4 : decode c_Stand_breadAfter 4 = .ok (.iload_n 0, 1) := by decide +kernel
theorem dd_Stand_breadAfter_5 : decode c_Stand_breadAfter 5 = .ok (.iconst 1, 1) := by decide +kernel
theorem dd_Stand_breadAfter_6 : decode c_Stand_breadAfter 6 = .ok (.isub, 1) := by decide +kernel
theorem dd_Stand_breadAfter_7 : decode c_Stand_breadAfter 7 = .ok (.iconst 0, 1) := by decide +kernel
theorem dd_Stand_breadAfter_8 : decode c_Stand_breadAfter 8 = .ok (.invokestatic 87, 3) := by decide +kernel
theorem dd_Stand_breadAfter_11 : decode c_Stand_breadAfter 11 = .ok (.goto 14, 3) := by decide +kernel
theorem dd_Stand_breadAfter_14 : decode c_Stand_breadAfter 14 = .ok (.iload_n 0, 1) := by decide +kernel
theorem dd_Stand_breadAfter_15 : decode c_Stand_breadAfter 15 = .ok (.iload_n 1, 1) := by decide +kernel
theorem dd_Stand_breadAfter_16 : decode c_Stand_breadAfter 16 = .ok (.iconst 3, 1) := by decide +kernel
theorem dd_Stand_breadAfter_17 : decode c_Stand_breadAfter 17 = .ok (.idiv, 1) := by decide +kernel
theorem dd_Stand_breadAfter_18 : decode c_Stand_breadAfter 18 = .ok (.iadd, 1) := by decide +kernel
theorem dd_Stand_breadAfter_19 : decode c_Stand_breadAfter 19 = .ok (.sipush 999, 3) := by decide +kernel
theorem dd_Stand_breadAfter_22 : decode c_Stand_breadAfter 22 = .ok (.invokestatic 83, 3) := by decide +kernel
theorem dd_Stand_breadAfter_25 : decode c_Stand_breadAfter 25 = .ok (.ireturn, 1) := by decide +kernel
theorem dd_Stand_tellHere_0 : decode c_Stand_tellHere 0 = .ok (.aload_n 0, 1) := by decide +kernel
theorem dd_Stand_tellHere_1 : decode c_Stand_tellHere 1 = .ok (.getfield 29, 3) := by decide +kernel
theorem dd_Stand_tellHere_4 : decode c_Stand_tellHere 4 = .ok (.bipush 6, 2) := by decide +kernel
theorem dd_Stand_tellHere_6 : decode c_Stand_tellHere 6 = .ok (.imul, 1) := by decide +kernel
theorem dd_Stand_tellHere_7 : decode c_Stand_tellHere 7 = .ok (.iload_n 1, 1) := by decide +kernel
theorem dd_Stand_tellHere_8 : decode c_Stand_tellHere 8 = .ok (.iadd, 1) := by decide +kernel
theorem dd_Stand_tellHere_9 : decode c_Stand_tellHere 9 = .ok (.istore_n 3, 1) := by decide +kernel
theorem dd_Stand_tellHere_10 : decode c_Stand_tellHere 10 = .ok (.aload_n 0, 1) := by decide +kernel
theorem dd_Stand_tellHere_11 : decode c_Stand_tellHere 11 = .ok (.getfield 17, 3) := by decide +kernel
theorem dd_Stand_tellHere_14 : decode c_Stand_tellHere 14 = .ok (.iload_n 3, 1) := by decide +kernel
theorem dd_Stand_tellHere_15 : decode c_Stand_tellHere 15 = .ok (.aload_n 0, 1) := by decide +kernel
theorem dd_Stand_tellHere_16 : decode c_Stand_tellHere 16 = .ok (.getfield 17, 3) := by decide +kernel
theorem dd_Stand_tellHere_19 : decode c_Stand_tellHere 19 = .ok (.iload_n 3, 1) := by decide +kernel
theorem dd_Stand_tellHere_20 : decode c_Stand_tellHere 20 = .ok (.iaload, 1) := by decide +kernel
theorem dd_Stand_tellHere_21 : decode c_Stand_tellHere 21 = .ok (.invokestatic 93, 3) := by decide +kernel
theorem dd_Stand_tellHere_24 : decode c_Stand_tellHere 24 = .ok (.iastore, 1) := by decide +kernel
theorem dd_Stand_tellHere_25 : decode c_Stand_tellHere 25 = .ok (.aload_n 0, 1) := by decide +kernel
theorem dd_Stand_tellHere_26 : decode c_Stand_tellHere 26 = .ok (.dup, 1) := by decide +kernel
theorem dd_Stand_tellHere_27 : decode c_Stand_tellHere 27 = .ok (.getfield 42, 3) := by decide +kernel
theorem dd_Stand_tellHere_30 : decode c_Stand_tellHere 30 = .ok (.iload_n 2, 1) := by decide +kernel
theorem dd_Stand_tellHere_31 : decode c_Stand_tellHere 31 = .ok (.invokestatic 96, 3) := by decide +kernel
theorem dd_Stand_tellHere_34 : decode c_Stand_tellHere 34 = .ok (.iadd, 1) := by decide +kernel
theorem dd_Stand_tellHere_35 : decode c_Stand_tellHere 35 = .ok (.putfield 42, 3) := by decide +kernel
theorem dd_Stand_tellHere_38 : decode c_Stand_tellHere 38 = .ok (.aload_n 0, 1) := by decide +kernel
theorem dd_Stand_tellHere_39 : decode c_Stand_tellHere 39 = .ok (.aload_n 0, 1) := by decide +kernel
theorem dd_Stand_tellHere_40 : decode c_Stand_tellHere 40 = .ok (.getfield 41, 3) := by decide +kernel
theorem dd_Stand_tellHere_43 : decode c_Stand_tellHere 43 = .ok (.iload_n 2, 1) := by decide +kernel
theorem dd_Stand_tellHere_44 : decode c_Stand_tellHere 44 = .ok (.invokestatic 99, 3) := by decide +kernel
theorem dd_Stand_tellHere_47 : decode c_Stand_tellHere 47 = .ok (.putfield 41, 3) := by decide +kernel
theorem dd_Stand_tellHere_50 : decode c_Stand_tellHere 50 = .ok (.aload_n 0, 1) := by decide +kernel
theorem dd_Stand_tellHere_51 : decode c_Stand_tellHere 51 = .ok (.dup, 1) := by decide +kernel
theorem dd_Stand_tellHere_52 : decode c_Stand_tellHere 52 = .ok (.getfield 45, 3) := by decide +kernel
theorem dd_Stand_tellHere_55 : decode c_Stand_tellHere 55 = .ok (.iload_n 2, 1) := by decide +kernel
theorem dd_Stand_tellHere_56 : decode c_Stand_tellHere 56 = .ok (.iadd, 1) := by decide +kernel
theorem dd_Stand_tellHere_57 : decode c_Stand_tellHere 57 = .ok (.putfield 45, 3) := by decide +kernel
theorem dd_Stand_tellHere_60 : decode c_Stand_tellHere 60 = .ok (.iload_n 2, 1) := by decide +kernel
theorem dd_Stand_tellHere_61 : decode c_Stand_tellHere 61 = .ok (.ifCond .ne 13, 3) := by decide +kernel
theorem dd_Stand_tellHere_64 : decode c_Stand_tellHere 64 = .ok (.aload_n 0, 1) := by decide +kernel
theorem dd_Stand_tellHere_65 : decode c_Stand_tellHere 65 = .ok (.dup, 1) := by decide +kernel
theorem dd_Stand_tellHere_66 : decode c_Stand_tellHere 66 = .ok (.getfield 48, 3) := by decide +kernel
theorem dd_Stand_tellHere_69 : decode c_Stand_tellHere 69 = .ok (.iconst 1, 1) := by decide +kernel
theorem dd_Stand_tellHere_70 : decode c_Stand_tellHere 70 = .ok (.iadd, 1) := by decide +kernel
theorem dd_Stand_tellHere_71 : decode c_Stand_tellHere 71 = .ok (.putfield 48, 3) := by decide +kernel
theorem dd_Stand_tellHere_74 : decode c_Stand_tellHere 74 = .ok (.aload_n 0, 1) := by decide +kernel
theorem dd_Stand_tellHere_75 : decode c_Stand_tellHere 75 = .ok (.getfield 20, 3) := by decide +kernel
theorem dd_Stand_tellHere_78 : decode c_Stand_tellHere 78 = .ok (.aload_n 0, 1) := by decide +kernel
theorem dd_Stand_tellHere_79 : decode c_Stand_tellHere 79 = .ok (.getfield 51, 3) := by decide +kernel
theorem dd_Stand_tellHere_82 : decode c_Stand_tellHere 82 = .ok (.bipush 100, 2) := by decide +kernel
theorem dd_Stand_tellHere_84 : decode c_Stand_tellHere 84 = .ok (.irem, 1) := by decide +kernel
theorem dd_Stand_tellHere_85 : decode c_Stand_tellHere 85 = .ok (.aload_n 0, 1) := by decide +kernel
theorem dd_Stand_tellHere_86 : decode c_Stand_tellHere 86 = .ok (.getfield 29, 3) := by decide +kernel
theorem dd_Stand_tellHere_89 : decode c_Stand_tellHere 89 = .ok (.sipush 1000, 3) := by decide +kernel
theorem dd_Stand_tellHere_92 : decode c_Stand_tellHere 92 = .ok (.imul, 1) := by decide +kernel
theorem dd_Stand_tellHere_93 : decode c_Stand_tellHere 93 = .ok (.iload_n 1, 1) := by decide +kernel
theorem dd_Stand_tellHere_94 : decode c_Stand_tellHere 94 = .ok (.bipush 100, 2) := by decide +kernel
theorem dd_Stand_tellHere_96 : decode c_Stand_tellHere 96 = .ok (.imul, 1) := by decide +kernel
theorem dd_Stand_tellHere_97 : decode c_Stand_tellHere 97 = .ok (.iadd, 1) := by decide +kernel
theorem dd_Stand_tellHere_98 : decode c_Stand_tellHere 98 = .ok (.iload_n 2, 1) := by decide +kernel
theorem dd_Stand_tellHere_99 : decode c_Stand_tellHere 99 = .ok (.iadd, 1) := by decide +kernel
theorem dd_Stand_tellHere_100 : decode c_Stand_tellHere 100 = .ok (.iastore, 1) := by decide +kernel
theorem dd_Stand_tellHere_101 : decode c_Stand_tellHere 101 = .ok (.aload_n 0, 1) := by decide +kernel
theorem dd_Stand_tellHere_102 : decode c_Stand_tellHere 102 = .ok (.dup, 1) := by decide +kernel
theorem dd_Stand_tellHere_103 : decode c_Stand_tellHere 103 = .ok (.getfield 51, 3) := by decide +kernel
theorem dd_Stand_tellHere_106 : decode c_Stand_tellHere 106 = .ok (.iconst 1, 1) := by decide +kernel
theorem dd_Stand_tellHere_107 : decode c_Stand_tellHere 107 = .ok (.iadd, 1) := by decide +kernel
theorem dd_Stand_tellHere_108 : decode c_Stand_tellHere 108 = .ok (.putfield 51, 3) := by decide +kernel
theorem dd_Stand_tellHere_111 : decode c_Stand_tellHere 111 = .ok (.return_, 1) := by decide +kernel
theorem dd_W_refuse_0 : decode c_W_refuse 0 = .ok (.aload_n 0, 1) := by decide +kernel
theorem dd_W_refuse_1 : decode c_W_refuse 1 = .ok (.getfield 94, 3) := by decide +kernel
theorem dd_W_refuse_4 : decode c_W_refuse 4 = .ok (.iload_n 1, 1) := by decide +kernel
theorem dd_W_refuse_5 : decode c_W_refuse 5 = .ok (.dup2, 1) := by decide +kernel
theorem dd_W_refuse_6 : decode c_W_refuse 6 = .ok (.iaload, 1) := by decide +kernel
theorem dd_W_refuse_7 : decode c_W_refuse 7 = .ok (.iconst 1, 1) := by decide +kernel
theorem dd_W_refuse_8 : decode c_W_refuse 8 = .ok (.iadd, 1) := by decide +kernel
theorem dd_W_refuse_9 : decode c_W_refuse 9 = .ok (.iastore, 1) := by decide +kernel
theorem dd_W_refuse_10 : decode c_W_refuse 10 = .ok (.iconst (-1), 1) := by decide +kernel
theorem dd_W_refuse_11 : decode c_W_refuse 11 = .ok (.ireturn, 1) := by decide +kernel
theorem dd_W_tells_0 : decode c_W_tells 0 = .ok (.aload_n 0, 1) := by decide +kernel
theorem dd_W_tells_1 : decode c_W_tells 1 = .ok (.getfield 42, 3) := by decide +kernel
theorem dd_W_tells_4 : decode c_W_tells 4 = .ok (.iload_n 1, 1) := by decide +kernel
theorem dd_W_tells_5 : decode c_W_tells 5 = .ok (.invokevirtual 163, 3) := by decide +kernel
theorem dd_W_tells_8 : decode c_W_tells 8 = .ok (.ifCond .ne 9, 3) := by decide +kernel
theorem dd_W_tells_11 : decode c_W_tells 11 = .ok (.aload_n 0, 1) := by decide +kernel
theorem dd_W_tells_12 : decode c_W_tells 12 = .ok (.iconst 0, 1) := by decide +kernel
theorem dd_W_tells_13 : decode c_W_tells 13 = .ok (.invokevirtual 195, 3) := by decide +kernel
theorem dd_W_tells_16 : decode c_W_tells 16 = .ok (.ireturn, 1) := by decide +kernel
theorem dd_W_tells_17 : decode c_W_tells 17 = .ok (.aload_n 0, 1) := by decide +kernel
theorem dd_W_tells_18 : decode c_W_tells 18 = .ok (.getfield 49, 3) := by decide +kernel
theorem dd_W_tells_21 : decode c_W_tells 21 = .ok (.iload_n 1, 1) := by decide +kernel
theorem dd_W_tells_22 : decode c_W_tells 22 = .ok (.invokevirtual 178, 3) := by decide +kernel
theorem dd_W_tells_25 : decode c_W_tells 25 = .ok (.ifCond .ne 9, 3) := by decide +kernel
theorem dd_W_tells_28 : decode c_W_tells 28 = .ok (.aload_n 0, 1) := by decide +kernel
theorem dd_W_tells_29 : decode c_W_tells 29 = .ok (.iconst 2, 1) := by decide +kernel
theorem dd_W_tells_30 : decode c_W_tells 30 = .ok (.invokevirtual 195, 3) := by decide +kernel
theorem dd_W_tells_33 : decode c_W_tells 33 = .ok (.ireturn, 1) := by decide +kernel
theorem dd_W_tells_34 : decode c_W_tells 34 = .ok (.aload_n 0, 1) := by decide +kernel
theorem dd_W_tells_35 : decode c_W_tells 35 = .ok (.getfield 65, 3) := by decide +kernel
theorem dd_W_tells_38 : decode c_W_tells 38 = .ok (.aload_n 0, 1) := by decide +kernel
theorem dd_W_tells_39 : decode c_W_tells 39 = .ok (.getfield 49, 3) := by decide +kernel
theorem dd_W_tells_42 : decode c_W_tells 42 = .ok (.getfield 198, 3) := by decide +kernel
theorem dd_W_tells_45 : decode c_W_tells 45 = .ok (.iload_n 1, 1) := by decide +kernel
theorem dd_W_tells_46 : decode c_W_tells 46 = .ok (.invokevirtual 188, 3) := by decide +kernel
theorem dd_W_tells_49 : decode c_W_tells 49 = .ok (.istore_n 2, 1) := by decide +kernel
theorem dd_W_tells_50 : decode c_W_tells 50 = .ok (.aload_n 0, 1) := by decide +kernel
theorem dd_W_tells_51 : decode c_W_tells 51 = .ok (.getfield 49, 3) := by decide +kernel
theorem dd_W_tells_54 : decode c_W_tells 54 = .ok (.iload_n 2, 1) := by decide +kernel
theorem dd_W_tells_55 : decode c_W_tells 55 = .ok (.invokestatic 201, 3) := by decide +kernel
theorem dd_W_tells_58 : decode c_W_tells 58 = .ok (.invokevirtual 204, 3) := by decide +kernel
theorem dd_W_tells_61 : decode c_W_tells 61 = .ok (.ifCond .ne 9, 3) := by decide +kernel
theorem dd_W_tells_64 : decode c_W_tells 64 = .ok (.aload_n 0, 1) := by decide +kernel
theorem dd_W_tells_65 : decode c_W_tells 65 = .ok (.iconst 4, 1) := by decide +kernel
theorem dd_W_tells_66 : decode c_W_tells 66 = .ok (.invokevirtual 195, 3) := by decide +kernel
theorem dd_W_tells_69 : decode c_W_tells 69 = .ok (.ireturn, 1) := by decide +kernel
theorem dd_W_tells_70 : decode c_W_tells 70 = .ok (.aload_n 0, 1) := by decide +kernel
theorem dd_W_tells_71 : decode c_W_tells 71 = .ok (.getfield 56, 3) := by decide +kernel
theorem dd_W_tells_74 : decode c_W_tells 74 = .ok (.aload_n 0, 1) := by decide +kernel
theorem dd_W_tells_75 : decode c_W_tells 75 = .ok (.getfield 49, 3) := by decide +kernel
theorem dd_W_tells_78 : decode c_W_tells 78 = .ok (.invokevirtual 207, 3) := by decide +kernel
theorem dd_W_tells_81 : decode c_W_tells 81 = .ok (.aload_n 0, 1) := by decide +kernel
theorem dd_W_tells_82 : decode c_W_tells 82 = .ok (.getfield 49, 3) := by decide +kernel
theorem dd_W_tells_85 : decode c_W_tells 85 = .ok (.iload_n 1, 1) := by decide +kernel
theorem dd_W_tells_86 : decode c_W_tells 86 = .ok (.iload_n 2, 1) := by decide +kernel
theorem dd_W_tells_87 : decode c_W_tells 87 = .ok (.invokevirtual 211, 3) := by decide +kernel
theorem dd_W_tells_90 : decode c_W_tells 90 = .ok (.iload_n 2, 1) := by decide +kernel
theorem dd_W_tells_91 : decode c_W_tells 91 = .ok (.ireturn, 1) := by decide +kernel
