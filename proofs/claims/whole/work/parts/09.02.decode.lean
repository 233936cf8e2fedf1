/-! ===== decode rows ===== -/
theorem dd_M_plainNumber_0 : decode c_M_plainNumber 0 = .ok (.iconst 0, 1) := by decide +kernel
theorem dd_M_plainNumber_1 : decode c_M_plainNumber 1 = .ok (.istore_n 1, 1) := by decide +kernel
theorem dd_M_plainNumber_2 : decode c_M_plainNumber 2 = .ok (.iconst 0, 1) := by decide +kernel
theorem dd_M_plainNumber_3 : decode c_M_plainNumber 3 = .ok (.istore_n 2, 1) := by decide +kernel
theorem dd_M_plainNumber_4 : decode c_M_plainNumber 4 = .ok (.iload_n 2, 1) := by decide +kernel
theorem dd_M_plainNumber_5 : decode c_M_plainNumber 5 = .ok (.iconst 4, 1) := by decide +kernel
theorem dd_M_plainNumber_6 : decode c_M_plainNumber 6 = .ok (.if_icmp .ge 42, 3) := by decide +kernel
theorem dd_M_plainNumber_9 : decode c_M_plainNumber 9 = .ok (.aload_n 0, 1) := by decide +kernel
theorem dd_M_plainNumber_10 : decode c_M_plainNumber 10 = .ok (.invokevirtual 103, 3) := by decide +kernel
theorem dd_M_plainNumber_13 : decode c_M_plainNumber 13 = .ok (.invokestatic 122, 3) := by decide +kernel
theorem dd_M_plainNumber_16 : decode c_M_plainNumber 16 = .ok (.ifCond .eq 32, 3) := by decide +kernel
theorem dd_M_plainNumber_19 : decode c_M_plainNumber 19 = .ok (.bipush 10, 2) := by decide +kernel
theorem dd_M_plainNumber_21 : decode c_M_plainNumber 21 = .ok (.iload_n 1, 1) := by decide +kernel
theorem dd_M_plainNumber_22 : decode c_M_plainNumber 22 = .ok (.imul, 1) := by decide +kernel
theorem dd_M_plainNumber_23 : decode c_M_plainNumber 23 = .ok (.aload_n 0, 1) := by decide +kernel
theorem dd_M_plainNumber_24 : decode c_M_plainNumber 24 = .ok (.invokevirtual 103, 3) := by decide +kernel
theorem dd_M_plainNumber_27 : decode c_M_plainNumber 27 = .ok (.iadd, 1) := by decide +kernel
theorem dd_M_plainNumber_28 : decode c_M_plainNumber 28 = .ok (.bipush 48, 2) := by decide +kernel
theorem dd_M_plainNumber_30 : decode c_M_plainNumber 30 = .ok (.isub, 1) := by decide +kernel
theorem dd_M_plainNumber_31 : decode c_M_plainNumber 31 = .ok (.istore_n 1, 1) := by decide +kernel
theorem dd_M_plainNumber_32 : decode c_M_plainNumber 32 = .ok (.aload_n 0, 1) := by decide +kernel
theorem dd_M_plainNumber_33 : decode c_M_plainNumber 33 = .ok (.dup, 1) := by decide +kernel
theorem dd_M_plainNumber_34 : decode c_M_plainNumber 34 = .ok (.getfield 100, 3) := by decide +kernel
theorem dd_M_plainNumber_37 : decode c_M_plainNumber 37 = .ok (.iconst 1, 1) := by decide +kernel
theorem dd_M_plainNumber_38 : decode c_M_plainNumber 38 = .ok (.iadd, 1) := by decide +kernel
theorem dd_M_plainNumber_39 : decode c_M_plainNumber 39 = .ok (.putfield 100, 3) := by decide +kernel
theorem dd_M_plainNumber_42 : decode c_M_plainNumber 42 = .ok (.iinc 2 1, 3) := by decide +kernel
theorem dd_M_plainNumber_45 : decode c_M_plainNumber 45 = .ok (.goto (-41), 3) := by decide +kernel
theorem dd_M_plainNumber_48 : decode c_M_plainNumber 48 = .ok (.aload_n 0, 1) := by decide +kernel
theorem dd_M_plainNumber_49 : decode c_M_plainNumber 49 = .ok (.invokevirtual 103, 3) := by decide +kernel
theorem dd_M_plainNumber_52 : decode c_M_plainNumber 52 = .ok (.invokestatic 122, 3) := by decide +kernel
theorem dd_M_plainNumber_55 : decode c_M_plainNumber 55 = .ok (.ifCond .eq 7, 3) := by decide +kernel
theorem dd_M_plainNumber_58 : decode c_M_plainNumber 58 = .ok (.aload_n 0, 1) := by decide +kernel
theorem dd_M_plainNumber_59 : decode c_M_plainNumber 59 = .ok (.invokevirtual 116, 3) := by decide +kernel
theorem dd_M_plainNumber_62 : decode c_M_plainNumber 62 = .ok (.iload_n 1, 1) := by decide +kernel
theorem dd_M_plainNumber_63 : decode c_M_plainNumber 63 = .ok (.ireturn, 1) := by decide +kernel
theorem dd_M_atom_0 : decode c_M_atom 0 = .ok (.aload_n 0, 1) := by decide +kernel
theorem dd_M_atom_1 : decode c_M_atom 1 = .ok (.invokevirtual 119, 3) := by decide +kernel
theorem dd_M_atom_4 : decode c_M_atom 4 = .ok (.istore_n 1, 1) := by decide +kernel
theorem dd_M_atom_5 : decode c_M_atom 5 = .ok (.iload_n 1, 1) := by decide +kernel
theorem dd_M_atom_6 : decode c_M_atom 6 = .ok (.invokestatic 122, 3) := by decide +kernel
theorem dd_M_atom_9 : decode c_M_atom 9 = .ok (.ifCond .eq 15, 3) := by decide +kernel
theorem dd_M_atom_12 : decode c_M_atom 12 = .ok (.aload_n 0, 1) := by decide +kernel
theorem dd_M_atom_13 : decode c_M_atom 13 = .ok (.iconst 0, 1) := by decide +kernel
theorem dd_M_atom_14 : decode c_M_atom 14 = .ok (.aload_n 0, 1) := by decide +kernel
theorem dd_M_atom_15 : decode c_M_atom 15 = .ok (.invokevirtual 126, 3) := by decide +kernel
theorem dd_M_atom_18 : decode c_M_atom 18 = .ok (.invokevirtual 129, 3) := by decide +kernel
theorem dd_M_atom_21 : decode c_M_atom 21 = .ok (.goto 68, 3) := by decide +kernel
theorem dd_M_atom_24 : decode c_M_atom 24 = .ok (.iload_n 1, 1) := by decide +kernel
theorem dd_M_atom_25 : decode c_M_atom 25 = .ok (.invokestatic 133, 3) := by decide +kernel
theorem dd_M_atom_28 : decode c_M_atom 28 = .ok (.iconst (-1), 1) := by decide +kernel
theorem dd_M_atom_29 : decode c_M_atom 29 = .ok (.if_icmp .eq 25, 3) := by decide +kernel
theorem dd_M_atom_32 : decode c_M_atom 32 = .ok (.aload_n 0, 1) := by decide +kernel
theorem dd_M_atom_33 : decode c_M_atom 33 = .ok (.dup, 1) := by decide +kernel
theorem dd_M_atom_34 : decode c_M_atom 34 = .ok (.getfield 100, 3) := by decide +kernel
theorem dd_M_atom_37 : decode c_M_atom 37 = .ok (.iconst 1, 1) := by decide +kernel
theorem dd_M_atom_38 : decode c_M_atom 38 = .ok (.iadd, 1) := by decide +kernel
theorem dd_M_atom_39 : decode c_M_atom 39 = .ok (.putfield 100, 3) := by decide +kernel
theorem dd_M_atom_42 : decode c_M_atom 42 = .ok (.aload_n 0, 1) := by decide +kernel
theorem dd_M_atom_43 : decode c_M_atom 43 = .ok (.iconst 1, 1) := by decide +kernel
theorem dd_M_atom_44 : decode c_M_atom 44 = .ok (.iload_n 1, 1) := by decide +kernel
theorem dd_M_atom_45 : decode c_M_atom 45 = .ok (.invokestatic 133, 3) := by decide +kernel
theorem dd_M_atom_48 : decode c_M_atom 48 = .ok (.invokevirtual 129, 3) := by decide +kernel
theorem dd_M_atom_51 : decode c_M_atom 51 = .ok (.goto 38, 3) := by decide +kernel
theorem dd_M_atom_54 : decode c_M_atom 54 = .ok (.iload_n 1, 1) := by decide +kernel
theorem dd_M_atom_55 : decode c_M_atom 55 = .ok (.bipush 91, 2) := by decide +kernel
theorem dd_M_atom_57 : decode c_M_atom 57 = .ok (.if_icmp .ne 28, 3) := by decide +kernel
theorem dd_M_atom_60 : decode c_M_atom 60 = .ok (.aload_n 0, 1) := by decide +kernel
theorem dd_M_atom_61 : decode c_M_atom 61 = .ok (.invokevirtual 137, 3) := by decide +kernel
theorem dd_M_atom_64 : decode c_M_atom 64 = .ok (.aload_n 0, 1) := by decide +kernel
theorem dd_M_atom_65 : decode c_M_atom 65 = .ok (.getfield 107, 3) := by decide +kernel
theorem dd_M_atom_68 : decode c_M_atom 68 = .ok (.iconst (-1), 1) := by decide +kernel
theorem dd_M_atom_69 : decode c_M_atom 69 = .ok (.if_icmp .ne 20, 3) := by decide +kernel
theorem dd_M_atom_72 : decode c_M_atom 72 = .ok (.aload_n 0, 1) := by decide +kernel
theorem dd_M_atom_73 : decode c_M_atom 73 = .ok (.invokevirtual 140, 3) := by decide +kernel
theorem dd_M_atom_76 : decode c_M_atom 76 = .ok (.aload_n 0, 1) := by decide +kernel
theorem dd_M_atom_77 : decode c_M_atom 77 = .ok (.bipush 93, 2) := by decide +kernel
theorem dd_M_atom_79 : decode c_M_atom 79 = .ok (.invokevirtual 143, 3) := by decide +kernel
theorem dd_M_atom_82 : decode c_M_atom 82 = .ok (.goto 7, 3) := by decide +kernel
theorem dd_M_atom_85 : decode c_M_atom 85 = .ok (.aload_n 0, 1) := by decide +kernel
theorem dd_M_atom_86 : decode c_M_atom 86 = .ok (.invokevirtual 116, 3) := by decide +kernel
theorem dd_M_atom_89 : decode c_M_atom 89 = .ok (.return_, 1) := by decide +kernel
theorem dd_M_term_0 : decode c_M_term 0 = .ok (.aload_n 0, 1) := by decide +kernel
theorem dd_M_term_1 : decode c_M_term 1 = .ok (.invokevirtual 147, 3) := by decide +kernel
theorem dd_M_term_4 : decode c_M_term 4 = .ok (.aload_n 0, 1) := by decide +kernel
theorem dd_M_term_5 : decode c_M_term 5 = .ok (.getfield 107, 3) := by decide +kernel
theorem dd_M_term_8 : decode c_M_term 8 = .ok (.iconst (-1), 1) := by decide +kernel
theorem dd_M_term_9 : decode c_M_term 9 = .ok (.if_icmp .ne 10, 3) := by decide +kernel
theorem dd_M_term_12 : decode c_M_term 12 = .ok (.aload_n 0, 1) := by decide +kernel
theorem dd_M_term_13 : decode c_M_term 13 = .ok (.invokevirtual 119, 3) := by decide +kernel
theorem dd_M_term_16 : decode c_M_term 16 = .ok (.goto 4, 3) := by decide +kernel
theorem dd_M_term_19 : decode c_M_term 19 = .ok (.iconst (-1), 1) := by decide +kernel
theorem dd_M_term_20 : decode c_M_term 20 = .ok (.istore_n 1, 1) := by decide +kernel
theorem dd_M_term_21 : decode c_M_term 21 = .ok (.iload_n 1, 1) := by decide +kernel
theorem dd_M_term_22 : decode c_M_term 22 = .ok (.bipush 42, 2) := by decide +kernel
theorem dd_M_term_24 : decode c_M_term 24 = .ok (.if_icmp .eq 9, 3) := by decide +kernel
theorem dd_M_term_27 : decode c_M_term 27 = .ok (.iload_n 1, 1) := by decide +kernel
theorem dd_M_term_28 : decode c_M_term 28 = .ok (.bipush 47, 2) := by decide +kernel
theorem dd_M_term_30 : decode c_M_term 30 = .ok (.if_icmp .ne 53, 3) := by decide +kernel
theorem dd_M_term_33 : decode c_M_term 33 = .ok (.aload_n 0, 1) := by decide +kernel
theorem dd_M_term_34 : decode c_M_term 34 = .ok (.dup, 1) := by decide +kernel
theorem dd_M_term_35 : decode c_M_term 35 = .ok (.getfield 100, 3) := by decide +kernel
theorem dd_M_term_38 : decode c_M_term 38 = .ok (.iconst 1, 1) := by decide +kernel
theorem dd_M_term_39 : decode c_M_term 39 = .ok (.iadd, 1) := by decide +kernel
theorem dd_M_term_40 : decode c_M_term 40 = .ok (.putfield 100, 3) := by decide +kernel
theorem dd_M_term_43 : decode c_M_term 43 = .ok (.aload_n 0, 1) := by decide +kernel
theorem dd_M_term_44 : decode c_M_term 44 = .ok (.invokevirtual 147, 3) := by decide +kernel
theorem dd_M_term_47 : decode c_M_term 47 = .ok (.aload_n 0, 1) := by decide +kernel
theorem dd_M_term_48 : decode c_M_term 48 = .ok (.iload_n 1, 1) := by decide +kernel
theorem dd_M_term_49 : decode c_M_term 49 = .ok (.bipush 42, 2) := by decide +kernel
theorem dd_M_term_51 : decode c_M_term 51 = .ok (.if_icmp .ne 7, 3) := by decide +kernel
theorem dd_M_term_54 : decode c_M_term 54 = .ok (.iconst 4, 1) := by decide +kernel
theorem dd_M_term_55 : decode c_M_term 55 = .ok (.goto 4, 3) := by decide +kernel
theorem dd_M_term_58 : decode c_M_term 58 = .ok (.iconst 5, 1) := by decide +kernel
theorem dd_M_term_59 : decode c_M_term 59 = .ok (.iconst 0, 1) := by decide +kernel
theorem dd_M_term_60 : decode c_M_term 60 = .ok (.invokevirtual 129, 3) := by decide +kernel
theorem dd_M_term_63 : decode c_M_term 63 = .ok (.aload_n 0, 1) := by decide +kernel
theorem dd_M_term_64 : decode c_M_term 64 = .ok (.getfield 107, 3) := by decide +kernel
theorem dd_M_term_67 : decode c_M_term 67 = .ok (.iconst (-1), 1) := by decide +kernel
theorem dd_M_term_68 : decode c_M_term 68 = .ok (.if_icmp .ne 10, 3) := by decide +kernel
theorem dd_M_term_71 : decode c_M_term 71 = .ok (.aload_n 0, 1) := by decide +kernel
theorem dd_M_term_72 : decode c_M_term 72 = .ok (.invokevirtual 119, 3) := by decide +kernel
theorem dd_M_term_75 : decode c_M_term 75 = .ok (.goto 4, 3) := by decide +kernel
theorem dd_M_term_78 : decode c_M_term 78 = .ok (.iconst (-1), 1) := by decide +kernel
theorem dd_M_term_79 : decode c_M_term 79 = .ok (.istore_n 1, 1) := by decide +kernel
theorem dd_M_term_80 : decode c_M_term 80 = .ok (.goto (-59), 3) := by decide +kernel
theorem dd_M_term_83 : decode c_M_term 83 = .ok (.return_, 1) := by decide +kernel
theorem dd_M_sum_0 : decode c_M_sum 0 = .ok (.aload_n 0, 1) := by decide +kernel
theorem dd_M_sum_1 : decode c_M_sum 1 = .ok (.invokevirtual 150, 3) := by decide +kernel
theorem dd_M_sum_4 : decode c_M_sum 4 = .ok (.aload_n 0, 1) := by decide +kernel
theorem dd_M_sum_5 : decode c_M_sum 5 = .ok (.getfield 107, 3) := by decide +kernel
theorem dd_M_sum_8 : decode c_M_sum 8 = .ok (.iconst (-1), 1) := by decide +kernel
theorem dd_M_sum_9 : decode c_M_sum 9 = .ok (.if_icmp .ne 10, 3) := by decide +kernel
theorem dd_M_sum_12 : decode c_M_sum 12 = .ok (.aload_n 0, 1) := by decide +kernel
theorem dd_M_sum_13 : decode c_M_sum 13 = .ok (.invokevirtual 119, 3) := by decide +kernel
theorem dd_M_sum_16 : decode c_M_sum 16 = .ok (.goto 4, 3) := by decide +kernel
theorem dd_M_sum_19 : decode c_M_sum 19 = .ok (.iconst (-1), 1) := by decide +kernel
theorem dd_M_sum_20 : decode c_M_sum 20 = .ok (.istore_n 1, 1) := by decide +kernel
theorem dd_M_sum_21 : decode c_M_sum 21 = .ok (.iload_n 1, 1) := by decide +kernel
theorem dd_M_sum_22 : decode c_M_sum 22 = .ok (.bipush 43, 2) := by decide +kernel
theorem dd_M_sum_24 : decode c_M_sum 24 = .ok (.if_icmp .eq 9, 3) := by decide +kernel
theorem dd_M_sum_27 : decode c_M_sum 27 = .ok (.iload_n 1, 1) := by decide +kernel
theorem dd_M_sum_28 : decode c_M_sum 28 = .ok (.bipush 45, 2) := by decide +kernel
theorem dd_M_sum_30 : decode c_M_sum 30 = .ok (.if_icmp .ne 53, 3) := by decide +kernel
theorem dd_M_sum_33 : decode c_M_sum 33 = .ok (.aload_n 0, 1) := by decide +kernel
theorem dd_M_sum_34 : decode c_M_sum 34 = .ok (.dup, 1) := by decide +kernel
theorem dd_M_sum_35 : decode c_M_sum 35 = .ok (.getfield 100, 3) := by decide +kernel
theorem dd_M_sum_38 : decode c_M_sum 38 = .ok (.iconst 1, 1) := by decide +kernel
theorem dd_M_sum_39 : decode c_M_sum 39 = .ok (.iadd, 1) := by decide +kernel
theorem dd_M_sum_40 : decode c_M_sum 40 = .ok (.putfield 100, 3) := by decide +kernel
theorem dd_M_sum_43 : decode c_M_sum 43 = .ok (.aload_n 0, 1) := by decide +kernel
theorem dd_M_sum_44 : decode c_M_sum 44 = .ok (.invokevirtual 150, 3) := by decide +kernel
theorem dd_M_sum_47 : decode c_M_sum 47 = .ok (.aload_n 0, 1) := by decide +kernel
theorem dd_M_sum_48 : decode c_M_sum 48 = .ok (.iload_n 1, 1) := by decide +kernel
theorem dd_M_sum_49 : decode c_M_sum 49 = .ok (.bipush 43, 2) := by decide +kernel
theorem dd_M_sum_51 : decode c_M_sum 51 = .ok (.if_icmp .ne 7, 3) := by decide +kernel
theorem dd_M_sum_54 : decode c_M_sum 54 = .ok (.iconst 2, 1) := by decide +kernel
theorem dd_M_sum_55 : decode c_M_sum 55 = .ok (.goto 4, 3) := by decide +kernel
theorem dd_M_sum_58 : decode c_M_sum 58 = .ok (.iconst 3, 1) := by decide +kernel
theorem dd_M_sum_59 : decode c_M_sum 59 = .ok (.iconst 0, 1) := by decide +kernel
theorem dd_M_sum_60 : decode c_M_sum 60 = .ok (.invokevirtual 129, 3) := by decide +kernel
theorem dd_M_sum_63 : decode c_M_sum 63 = .ok (.aload_n 0, 1) := by decide +kernel
theorem dd_M_sum_64 : decode c_M_sum 64 = .ok (.getfield 107, 3) := by decide +kernel
theorem dd_M_sum_67 : decode c_M_sum 67 = .ok (.iconst (-1), 1) := by decide +kernel
theorem dd_M_sum_68 : decode c_M_sum 68 = .ok (.if_icmp .ne 10, 3) := by decide +kernel
theorem dd_M_sum_71 : decode c_M_sum 71 = .ok (.aload_n 0, 1) := by decide +kernel
theorem dd_M_sum_72 : decode c_M_sum 72 = .ok (.invokevirtual 119, 3) := by decide +kernel
theorem dd_M_sum_75 : decode c_M_sum 75 = .ok (.goto 4, 3) := by decide +kernel
theorem dd_M_sum_78 : decode c_M_sum 78 = .ok (.iconst (-1), 1) := by decide +kernel
theorem dd_M_sum_79 : decode c_M_sum 79 = .ok (.istore_n 1, 1) := by decide +kernel
theorem dd_M_sum_80 : decode c_M_sum 80 = .ok (.goto (-59), 3) := by decide +kernel
theorem dd_M_sum_83 : decode c_M_sum 83 = .ok (.return_, 1) := by decide +kernel
theorem dd_M_isSign_0 : decode c_M_isSign 0 = .ok (.iload_n 0, 1) := by decide +kernel
theorem dd_M_isSign_1 : decode c_M_isSign 1 = .ok (.bipush 61, 2) := by decide +kernel
theorem dd_M_isSign_3 : decode c_M_isSign 3 = .ok (.if_icmp .eq 15, 3) := by decide +kernel
theorem dd_M_isSign_6 : decode c_M_isSign 6 = .ok (.iload_n 0, 1) := by decide +kernel
theorem dd_M_isSign_7 : decode c_M_isSign 7 = .ok (.bipush 60, 2) := by decide +kernel
theorem dd_M_isSign_9 : decode c_M_isSign 9 = .ok (.if_icmp .eq 9, 3) := by decide +kernel
theorem dd_M_isSign_12 : decode c_M_isSign 12 = .ok (.iload_n 0, 1) := by decide +kernel
theorem dd_M_isSign_13 : decode c_M_isSign 13 = .ok (.bipush 62, 2) := by decide +kernel
theorem dd_M_isSign_15 : decode c_M_isSign 15 = .ok (.if_icmp .ne 7, 3) := by decide +kernel
theorem dd_M_isSign_18 : decode c_M_isSign 18 = .ok (.iconst 1, 1) := by decide +kernel
theorem dd_M_isSign_19 : decode c_M_isSign 19 = .ok (.goto 4, 3) := by decide +kernel
theorem dd_M_isSign_22 : decode c_M_isSign 22 = .ok (.iconst 0, 1) := by decide +kernel
theorem dd_M_isSign_23 : decode c_M_isSign 23 = .ok (.ireturn, 1) := by decide +kernel
theorem dd_M_compare_0 : decode c_M_compare 0 = .ok (.aload_n 0, 1) := by decide +kernel
theorem dd_M_compare_1 : decode c_M_compare 1 = .ok (.getfield 107, 3) := by decide +kernel
theorem dd_M_compare_4 : decode c_M_compare 4 = .ok (.iconst (-1), 1) := by decide +kernel
theorem dd_M_compare_5 : decode c_M_compare 5 = .ok (.if_icmp .ne 10, 3) := by decide +kernel
theorem dd_M_compare_8 : decode c_M_compare 8 = .ok (.aload_n 0, 1) := by decide +kernel
theorem dd_M_compare_9 : decode c_M_compare 9 = .ok (.invokevirtual 119, 3) := by decide +kernel
theorem dd_M_compare_12 : decode c_M_compare 12 = .ok (.goto 4, 3) := by decide +kernel
theorem dd_M_compare_15 : decode c_M_compare 15 = .ok (.iconst (-1), 1) := by decide +kernel
theorem dd_M_compare_16 : decode c_M_compare 16 = .ok (.istore_n 1, 1) := by decide +kernel
theorem dd_M_compare_17 : decode c_M_compare 17 = .ok (.iload_n 1, 1) := by decide +kernel
theorem dd_M_compare_18 : decode c_M_compare 18 = .ok (.invokestatic 153, 3) := by decide +kernel
theorem dd_M_compare_21 : decode c_M_compare 21 = .ok (.ifCond .ne 8, 3) := by decide +kernel
theorem dd_M_compare_24 : decode c_M_compare 24 = .ok (.aload_n 0, 1) := by decide +kernel
theorem dd_M_compare_25 : decode c_M_compare 25 = .ok (.invokevirtual 116, 3) := by decide +kernel
theorem dd_M_compare_28 : decode c_M_compare 28 = .ok (.return_, 1) := by decide +kernel
theorem dd_M_compare_29 : decode c_M_compare 29 = .ok (.aload_n 0, 1) := by decide +kernel
theorem dd_M_compare_30 : decode c_M_compare 30 = .ok (.dup, 1) := by decide +kernel
theorem dd_M_compare_31 : decode c_M_compare 31 = .ok (.getfield 100, 3) := by decide +kernel
theorem dd_M_compare_34 : decode c_M_compare 34 = .ok (.iconst 1, 1) := by decide +kernel
theorem dd_M_compare_35 : decode c_M_compare 35 = .ok (.iadd, 1) := by decide +kernel
theorem dd_M_compare_36 : decode c_M_compare 36 = .ok (.putfield 100, 3) := by decide +kernel
theorem dd_M_compare_39 : decode c_M_compare 39 = .ok (.aload_n 0, 1) := by decide +kernel
theorem dd_M_compare_40 : decode c_M_compare 40 = .ok (.invokevirtual 140, 3) := by decide +kernel
theorem dd_M_compare_43 : decode c_M_compare 43 = .ok (.aload_n 0, 1) := by decide +kernel
theorem dd_M_compare_44 : decode c_M_compare 44 = .ok (.iload_n 1, 1) := by decide +kernel
theorem dd_M_compare_45 : decode c_M_compare 45 = .ok (.bipush 61, 2) := by decide +kernel
theorem dd_M_compare_47 : decode c_M_compare 47 = .ok (.if_icmp .ne 8, 3) := by decide +kernel
theorem dd_M_compare_50 : decode c_M_compare 50 = .ok (.bipush 6, 2) := by decide +kernel
theorem dd_M_compare_52 : decode c_M_compare 52 = .ok (.goto 16, 3) := by decide +kernel
theorem dd_M_compare_55 : decode c_M_compare 55 = .ok (.iload_n 1, 1) := by decide +kernel
theorem dd_M_compare_56 : decode c_M_compare 56 = .ok (.bipush 60, 2) := by decide +kernel
theorem dd_M_compare_58 : decode c_M_compare 58 = .ok (.if_icmp .ne 8, 3) := by decide +kernel
theorem dd_M_compare_61 : decode c_M_compare 61 = .ok (.bipush 7, 2) := by decide +kernel
theorem dd_M_compare_63 : decode c_M_compare 63 = .ok (.goto 5, 3) := by decide +kernel
theorem dd_M_compare_66 : decode c_M_compare 66 = .ok (.bipush 8, 2) := by decide +kernel
theorem dd_M_compare_68 : decode c_M_compare 68 = .ok (.iconst 0, 1) := by decide +kernel
theorem dd_M_compare_69 : decode c_M_compare 69 = .ok (.invokevirtual 129, 3) := by decide +kernel
theorem dd_M_compare_72 : decode c_M_compare 72 = .ok (.return_, 1) := by decide +kernel
theorem dd_M_goOnAnd_0 : decode c_M_goOnAnd 0 = .ok (.aload_n 0, 1) := by decide +kernel
theorem dd_M_goOnAnd_1 : decode c_M_goOnAnd 1 = .ok (.getfield 107, 3) := by decide +kernel
theorem dd_M_goOnAnd_4 : decode c_M_goOnAnd 4 = .ok (.iconst (-1), 1) := by decide +kernel
theorem dd_M_goOnAnd_5 : decode c_M_goOnAnd 5 = .ok (.if_icmp .ne 36, 3) := by decide +kernel
theorem dd_M_goOnAnd_8 : decode c_M_goOnAnd 8 = .ok (.aload_n 0, 1) := by decide +kernel
theorem dd_M_goOnAnd_9 : decode c_M_goOnAnd 9 = .ok (.invokevirtual 119, 3) := by decide +kernel
theorem dd_M_goOnAnd_12 : decode c_M_goOnAnd 12 = .ok (.bipush 38, 2) := by decide +kernel
theorem dd_M_goOnAnd_14 : decode c_M_goOnAnd 14 = .ok (.if_icmp .ne 27, 3) := by decide +kernel
theorem dd_M_goOnAnd_17 : decode c_M_goOnAnd 17 = .ok (.aload_n 0, 1) := by decide +kernel
theorem dd_M_goOnAnd_18 : decode c_M_goOnAnd 18 = .ok (.dup, 1) := by decide +kernel
theorem dd_M_goOnAnd_19 : decode c_M_goOnAnd 19 = .ok (.getfield 100, 3) := by decide +kernel
theorem dd_M_goOnAnd_22 : decode c_M_goOnAnd 22 = .ok (.iconst 1, 1) := by decide +kernel
theorem dd_M_goOnAnd_23 : decode c_M_goOnAnd 23 = .ok (.iadd, 1) := by decide +kernel
theorem dd_M_goOnAnd_24 : decode c_M_goOnAnd 24 = .ok (.putfield 100, 3) := by decide +kernel
theorem dd_M_goOnAnd_27 : decode c_M_goOnAnd 27 = .ok (.aload_n 0, 1) := by decide +kernel
theorem dd_M_goOnAnd_28 : decode c_M_goOnAnd 28 = .ok (.invokevirtual 156, 3) := by decide +kernel
theorem dd_M_goOnAnd_31 : decode c_M_goOnAnd 31 = .ok (.aload_n 0, 1) := by decide +kernel
theorem dd_M_goOnAnd_32 : decode c_M_goOnAnd 32 = .ok (.bipush 10, 2) := by decide +kernel
theorem dd_M_goOnAnd_34 : decode c_M_goOnAnd 34 = .ok (.iconst 0, 1) := by decide +kernel
theorem dd_M_goOnAnd_35 : decode c_M_goOnAnd 35 = .ok (.invokevirtual 129, 3) := by decide +kernel
theorem dd_M_goOnAnd_38 : decode c_M_goOnAnd 38 = .ok (.goto (-38), 3) := by decide +kernel
theorem dd_M_goOnAnd_41 : decode c_M_goOnAnd 41 = .ok (.return_, 1) := by decide +kernel
theorem dd_M_goOnOr_0 : decode c_M_goOnOr 0 = .ok (.aload_n 0, 1) := by decide +kernel
theorem dd_M_goOnOr_1 : decode c_M_goOnOr 1 = .ok (.getfield 107, 3) := by decide +kernel
theorem dd_M_goOnOr_4 : decode c_M_goOnOr 4 = .ok (.iconst (-1), 1) := by decide +kernel
theorem dd_M_goOnOr_5 : decode c_M_goOnOr 5 = .ok (.if_icmp .ne 40, 3) := by decide +kernel
theorem dd_M_goOnOr_8 : decode c_M_goOnOr 8 = .ok (.aload_n 0, 1) := by decide +kernel
theorem dd_M_goOnOr_9 : decode c_M_goOnOr 9 = .ok (.invokevirtual 119, 3) := by decide +kernel
theorem dd_M_goOnOr_12 : decode c_M_goOnOr 12 = .ok (.bipush 124, 2) := by decide +kernel
theorem dd_M_goOnOr_14 : decode c_M_goOnOr 14 = .ok (.if_icmp .ne 31, 3) := by decide +kernel
theorem dd_M_goOnOr_17 : decode c_M_goOnOr 17 = .ok (.aload_n 0, 1) := by decide +kernel
theorem dd_M_goOnOr_18 : decode c_M_goOnOr 18 = .ok (.dup, 1) := by decide +kernel
theorem dd_M_goOnOr_19 : decode c_M_goOnOr 19 = .ok (.getfield 100, 3) := by decide +kernel
theorem dd_M_goOnOr_22 : decode c_M_goOnOr 22 = .ok (.iconst 1, 1) := by decide +kernel
theorem dd_M_goOnOr_23 : decode c_M_goOnOr 23 = .ok (.iadd, 1) := by decide +kernel
theorem dd_M_goOnOr_24 : decode c_M_goOnOr 24 = .ok (.putfield 100, 3) := by decide +kernel
theorem dd_M_goOnOr_27 : decode c_M_goOnOr 27 = .ok (.aload_n 0, 1) := by decide +kernel
theorem dd_M_goOnOr_28 : decode c_M_goOnOr 28 = .ok (.invokevirtual 156, 3) := by decide +kernel
theorem dd_M_goOnOr_31 : decode c_M_goOnOr 31 = .ok (.aload_n 0, 1) := by decide +kernel
theorem dd_M_goOnOr_32 : decode c_M_goOnOr 32 = .ok (.invokevirtual 165, 3) := by decide +kernel
theorem dd_M_goOnOr_35 : decode c_M_goOnOr 35 = .ok (.aload_n 0, 1) := by decide +kernel
theorem dd_M_goOnOr_36 : decode c_M_goOnOr 36 = .ok (.bipush 11, 2) := by decide +kernel
theorem dd_M_goOnOr_38 : decode c_M_goOnOr 38 = .ok (.iconst 0, 1) := by decide +kernel
theorem dd_M_goOnOr_39 : decode c_M_goOnOr 39 = .ok (.invokevirtual 129, 3) := by decide +kernel
theorem dd_M_goOnOr_42 : decode c_M_goOnOr 42 = .ok (.goto (-42), 3) := by decide +kernel
theorem dd_M_goOnOr_45 : decode c_M_goOnOr 45 = .ok (.return_, 1) := by decide +kernel
theorem dd_M_condition_0 : decode c_M_condition 0 = .ok (.aload_n 0, 1) := by decide +kernel
theorem dd_M_condition_1 : decode c_M_condition 1 = .ok (.invokevirtual 156, 3) := by decide +kernel
theorem dd_M_condition_4 : decode c_M_condition 4 = .ok (.aload_n 0, 1) := by decide +kernel
theorem dd_M_condition_5 : decode c_M_condition 5 = .ok (.invokevirtual 165, 3) := by decide +kernel
theorem dd_M_condition_8 : decode c_M_condition 8 = .ok (.aload_n 0, 1) := by decide +kernel
theorem dd_M_condition_9 : decode c_M_condition 9 = .ok (.invokevirtual 168, 3) := by decide +kernel
theorem dd_M_condition_12 : decode c_M_condition 12 = .ok (.return_, 1) := by decide +kernel
theorem dd_M_unit_0 : decode c_M_unit 0 = .ok (.aload_n 0, 1) := by decide +kernel
theorem dd_M_unit_1 : decode c_M_unit 1 = .ok (.invokevirtual 119, 3) := by decide +kernel
theorem dd_M_unit_4 : decode c_M_unit 4 = .ok (.istore_n 1, 1) := by decide +kernel
theorem dd_M_unit_5 : decode c_M_unit 5 = .ok (.iload_n 1, 1) := by decide +kernel
theorem dd_M_unit_6 : decode c_M_unit 6 = .ok (.bipush 33, 2) := by decide +kernel
theorem dd_M_unit_8 : decode c_M_unit 8 = .ok (.if_icmp .ne 39, 3) := by decide +kernel
theorem dd_M_unit_11 : decode c_M_unit 11 = .ok (.aload_n 0, 1) := by decide +kernel
theorem dd_M_unit_12 : decode c_M_unit 12 = .ok (.invokevirtual 137, 3) := by decide +kernel
theorem dd_M_unit_15 : decode c_M_unit 15 = .ok (.aload_n 0, 1) := by decide +kernel
theorem dd_M_unit_16 : decode c_M_unit 16 = .ok (.getfield 107, 3) := by decide +kernel
theorem dd_M_unit_19 : decode c_M_unit 19 = .ok (.iconst (-1), 1) := by decide +kernel
theorem dd_M_unit_20 : decode c_M_unit 20 = .ok (.if_icmp .ne 74, 3) := by decide +kernel
theorem dd_M_unit_23 : decode c_M_unit 23 = .ok (.aload_n 0, 1) := by decide +kernel
theorem dd_M_unit_24 : decode c_M_unit 24 = .ok (.invokevirtual 156, 3) := by decide +kernel
theorem dd_M_unit_27 : decode c_M_unit 27 = .ok (.aload_n 0, 1) := by decide +kernel
theorem dd_M_unit_28 : decode c_M_unit 28 = .ok (.bipush 9, 2) := by decide +kernel
theorem dd_M_unit_30 : decode c_M_unit 30 = .ok (.iconst 0, 1) := by decide +kernel
theorem dd_M_unit_31 : decode c_M_unit 31 = .ok (.invokevirtual 129, 3) := by decide +kernel
theorem dd_M_unit_34 : decode c_M_unit 34 = .ok (.aload_n 0, 1) := by decide +kernel
theorem dd_M_unit_35 : decode c_M_unit 35 = .ok (.dup, 1) := by decide +kernel
theorem dd_M_unit_36 : decode c_M_unit 36 = .ok (.getfield 113, 3) := by decide +kernel
theorem dd_M_unit_39 : decode c_M_unit 39 = .ok (.iconst 1, 1) := by decide +kernel
theorem dd_M_unit_40 : decode c_M_unit 40 = .ok (.isub, 1) := by decide +kernel
theorem dd_M_unit_41 : decode c_M_unit 41 = .ok (.putfield 113, 3) := by decide +kernel
theorem dd_M_unit_44 : decode c_M_unit 44 = .ok (.goto 50, 3) := by decide +kernel
theorem dd_M_unit_47 : decode c_M_unit 47 = .ok (.iload_n 1, 1) := by decide +kernel
theorem dd_M_unit_48 : decode c_M_unit 48 = .ok (.bipush 40, 2) := by decide +kernel
theorem dd_M_unit_50 : decode c_M_unit 50 = .ok (.if_icmp .ne 28, 3) := by decide +kernel
theorem dd_M_unit_53 : decode c_M_unit 53 = .ok (.aload_n 0, 1) := by decide +kernel
theorem dd_M_unit_54 : decode c_M_unit 54 = .ok (.invokevirtual 137, 3) := by decide +kernel
theorem dd_M_unit_57 : decode c_M_unit 57 = .ok (.aload_n 0, 1) := by decide +kernel
theorem dd_M_unit_58 : decode c_M_unit 58 = .ok (.getfield 107, 3) := by decide +kernel
theorem dd_M_unit_61 : decode c_M_unit 61 = .ok (.iconst (-1), 1) := by decide +kernel
theorem dd_M_unit_62 : decode c_M_unit 62 = .ok (.if_icmp .ne 32, 3) := by decide +kernel
theorem dd_M_unit_65 : decode c_M_unit 65 = .ok (.aload_n 0, 1) := by decide +kernel
theorem dd_M_unit_66 : decode c_M_unit 66 = .ok (.invokevirtual 159, 3) := by decide +kernel
theorem dd_M_unit_69 : decode c_M_unit 69 = .ok (.aload_n 0, 1) := by decide +kernel
theorem dd_M_unit_70 : decode c_M_unit 70 = .ok (.bipush 41, 2) := by decide +kernel
theorem dd_M_unit_72 : decode c_M_unit 72 = .ok (.invokevirtual 143, 3) := by decide +kernel
theorem dd_M_unit_75 : decode c_M_unit 75 = .ok (.goto 19, 3) := by decide +kernel
theorem dd_M_unit_78 : decode c_M_unit 78 = .ok (.aload_n 0, 1) := by decide +kernel
theorem dd_M_unit_79 : decode c_M_unit 79 = .ok (.invokevirtual 140, 3) := by decide +kernel
theorem dd_M_unit_82 : decode c_M_unit 82 = .ok (.aload_n 0, 1) := by decide +kernel
theorem dd_M_unit_83 : decode c_M_unit 83 = .ok (.getfield 107, 3) := by decide +kernel
theorem dd_M_unit_86 : decode c_M_unit 86 = .ok (.iconst (-1), 1) := by decide +kernel
theorem dd_M_unit_87 : decode c_M_unit 87 = .ok (.if_icmp .ne 7, 3) := by decide +kernel
theorem dd_M_unit_90 : decode c_M_unit 90 = .ok (.aload_n 0, 1) := by decide +kernel
theorem dd_M_unit_91 : decode c_M_unit 91 = .ok (.invokevirtual 162, 3) := by decide +kernel
theorem dd_M_unit_94 : decode c_M_unit 94 = .ok (.return_, 1) := by decide +kernel
theorem dd_M_clause_0 : decode c_M_clause 0 = .ok (.sipush 140, 3) := by decide +kernel
theorem dd_M_clause_3 : decode c_M_clause 3 = .ok (.aload_n 0, 1) := by decide +kernel
theorem dd_M_clause_4 : decode c_M_clause 4 = .ok (.getfield 110, 3) := by decide +kernel
theorem dd_M_clause_7 : decode c_M_clause 7 = .ok (.imul, 1) := by decide +kernel
theorem dd_M_clause_8 : decode c_M_clause 8 = .ok (.aload_n 0, 1) := by decide +kernel
theorem dd_M_clause_9 : decode c_M_clause 9 = .ok (.getfield 22, 3) := by decide +kernel
theorem dd_M_clause_12 : decode c_M_clause 12 = .ok (.aload_n 0, 1) := by decide +kernel
theorem dd_M_clause_13 : decode c_M_clause 13 = .ok (.getfield 110, 3) := by decide +kernel
theorem dd_M_clause_16 : decode c_M_clause 16 = .ok (.iaload, 1) := by decide +kernel
theorem dd_M_clause_17 : decode c_M_clause 17 = .ok (.iadd, 1) := by decide +kernel
theorem dd_M_clause_18 : decode c_M_clause 18 = .ok (.istore_n 1, 1) := by decide +kernel
theorem dd_M_clause_19 : decode c_M_clause 19 = .ok (.aload_n 0, 1) := by decide +kernel
theorem dd_M_clause_20 : decode c_M_clause 20 = .ok (.getfield 107, 3) := by decide +kernel
theorem dd_M_clause_23 : decode c_M_clause 23 = .ok (.iconst (-1), 1) := by decide +kernel
theorem dd_M_clause_24 : decode c_M_clause 24 = .ok (.if_icmp .ne 16, 3) := by decide +kernel
theorem dd_M_clause_27 : decode c_M_clause 27 = .ok (.aload_n 0, 1) := by decide +kernel
theorem dd_M_clause_28 : decode c_M_clause 28 = .ok (.invokevirtual 119, 3) := by decide +kernel
theorem dd_M_clause_31 : decode c_M_clause 31 = .ok (.bipush 121, 2) := by decide +kernel
theorem dd_M_clause_33 : decode c_M_clause 33 = .ok (.if_icmp .eq 7, 3) := by decide +kernel
theorem dd_M_clause_36 : decode c_M_clause 36 = .ok (.aload_n 0, 1) := by decide +kernel
theorem dd_M_clause_37 : decode c_M_clause 37 = .ok (.invokevirtual 116, 3) := by decide +kernel
theorem dd_M_clause_40 : decode c_M_clause 40 = .ok (.aload_n 0, 1) := by decide +kernel
theorem dd_M_clause_41 : decode c_M_clause 41 = .ok (.dup, 1) := by decide +kernel
theorem dd_M_clause_42 : decode c_M_clause 42 = .ok (.getfield 100, 3) := by decide +kernel
theorem dd_M_clause_45 : decode c_M_clause 45 = .ok (.iconst 1, 1) := by decide +kernel
theorem dd_M_clause_46 : decode c_M_clause 46 = .ok (.iadd, 1) := by decide +kernel
theorem dd_M_clause_47 : decode c_M_clause 47 = .ok (.putfield 100, 3) := by decide +kernel
theorem dd_M_clause_50 : decode c_M_clause 50 = .ok (.aload_n 0, 1) := by decide +kernel
theorem dd_M_clause_51 : decode c_M_clause 51 = .ok (.getfield 107, 3) := by decide +kernel
theorem dd_M_clause_54 : decode c_M_clause 54 = .ok (.iconst (-1), 1) := by decide +kernel
theorem dd_M_clause_55 : decode c_M_clause 55 = .ok (.if_icmp .ne 16, 3) := by decide +kernel
theorem dd_M_clause_58 : decode c_M_clause 58 = .ok (.aload_n 0, 1) := by decide +kernel
theorem dd_M_clause_59 : decode c_M_clause 59 = .ok (.invokevirtual 119, 3) := by decide +kernel
theorem dd_M_clause_62 : decode c_M_clause 62 = .ok (.bipush 58, 2) := by decide +kernel
theorem dd_M_clause_64 : decode c_M_clause 64 = .ok (.if_icmp .eq 7, 3) := by decide +kernel
theorem dd_M_clause_67 : decode c_M_clause 67 = .ok (.aload_n 0, 1) := by decide +kernel
theorem dd_M_clause_68 : decode c_M_clause 68 = .ok (.invokevirtual 116, 3) := by decide +kernel
theorem dd_M_clause_71 : decode c_M_clause 71 = .ok (.aload_n 0, 1) := by decide +kernel
theorem dd_M_clause_72 : decode c_M_clause 72 = .ok (.dup, 1) := by decide +kernel
theorem dd_M_clause_73 : decode c_M_clause 73 = .ok (.getfield 100, 3) := by decide +kernel
theorem dd_M_clause_76 : decode c_M_clause 76 = .ok (.iconst 1, 1) := by decide +kernel
theorem dd_M_clause_77 : decode c_M_clause 77 = .ok (.iadd, 1) := by decide +kernel
theorem dd_M_clause_78 : decode c_M_clause 78 = .ok (.putfield 100, 3) := by decide +kernel
theorem dd_M_clause_81 : decode c_M_clause 81 = .ok (.aload_n 0, 1) := by decide +kernel
theorem dd_M_clause_82 : decode c_M_clause 82 = .ok (.getfield 107, 3) := by decide +kernel
theorem dd_M_clause_85 : decode c_M_clause 85 = .ok (.iconst (-1), 1) := by decide +kernel
theorem dd_M_clause_86 : decode c_M_clause 86 = .ok (.if_icmp .eq 4, 3) := by decide +kernel
theorem dd_M_clause_89 : decode c_M_clause 89 = .ok (.return_, 1) := by decide +kernel
theorem dd_M_clause_90 : decode c_M_clause 90 = .ok (.aload_n 0, 1) := by decide +kernel
theorem dd_M_clause_91 : decode c_M_clause 91 = .ok (.getfield 25, 3) := by decide +kernel
theorem dd_M_clause_94 : decode c_M_clause 94 = .ok (.iload_n 1, 1) := by decide +kernel
theorem dd_M_clause_95 : decode c_M_clause 95 = .ok (.aload_n 0, 1) := by decide +kernel
theorem dd_M_clause_96 : decode c_M_clause 96 = .ok (.getfield 19, 3) := by decide +kernel
theorem dd_M_clause_99 : decode c_M_clause 99 = .ok (.aload_n 0, 1) := by decide +kernel
theorem dd_M_clause_100 : decode c_M_clause 100 = .ok (.getfield 110, 3) := by decide +kernel
theorem dd_M_clause_103 : decode c_M_clause 103 = .ok (.iaload, 1) := by decide +kernel
theorem dd_M_clause_104 : decode c_M_clause 104 = .ok (.iastore, 1) := by decide +kernel
theorem dd_M_clause_105 : decode c_M_clause 105 = .ok (.aload_n 0, 1) := by decide +kernel
theorem dd_M_clause_106 : decode c_M_clause 106 = .ok (.invokevirtual 119, 3) := by decide +kernel
theorem dd_M_clause_109 : decode c_M_clause 109 = .ok (.bipush 33, 2) := by decide +kernel
theorem dd_M_clause_111 : decode c_M_clause 111 = .ok (.if_icmp .eq 12, 3) := by decide +kernel
theorem dd_M_clause_114 : decode c_M_clause 114 = .ok (.aload_n 0, 1) := by decide +kernel
theorem dd_M_clause_115 : decode c_M_clause 115 = .ok (.invokevirtual 119, 3) := by decide +kernel
theorem dd_M_clause_118 : decode c_M_clause 118 = .ok (.bipush 40, 2) := by decide +kernel
theorem dd_M_clause_120 : decode c_M_clause 120 = .ok (.if_icmp .ne 7, 3) := by decide +kernel
theorem dd_M_clause_123 : decode c_M_clause 123 = .ok (.iconst 1, 1) := by decide +kernel
theorem dd_M_clause_124 : decode c_M_clause 124 = .ok (.goto 4, 3) := by decide +kernel
theorem dd_M_clause_127 : decode c_M_clause 127 = .ok (.iconst 0, 1) := by decide +kernel
theorem dd_M_clause_128 : decode c_M_clause 128 = .ok (.istore_n 2, 1) := by decide +kernel
theorem dd_M_clause_129 : decode c_M_clause 129 = .ok (.iload_n 2, 1) := by decide +kernel
theorem dd_M_clause_130 : decode c_M_clause 130 = .ok (.ifCond .eq 10, 3) := by decide +kernel
theorem dd_M_clause_133 : decode c_M_clause 133 = .ok (.aload_n 0, 1) := by decide +kernel
theorem dd_M_clause_134 : decode c_M_clause 134 = .ok (.invokevirtual 159, 3) := by decide +kernel
theorem dd_M_clause_137 : decode c_M_clause 137 = .ok (.goto 47, 3) := by decide +kernel
theorem dd_M_clause_140 : decode c_M_clause 140 = .ok (.aload_n 0, 1) := by decide +kernel
theorem dd_M_clause_141 : decode c_M_clause 141 = .ok (.invokevirtual 140, 3) := by decide +kernel
theorem dd_M_clause_144 : decode c_M_clause 144 = .ok (.aload_n 0, 1) := by decide +kernel
theorem dd_M_clause_145 : decode c_M_clause 145 = .ok (.getfield 107, 3) := by decide +kernel
theorem dd_M_clause_148 : decode c_M_clause 148 = .ok (.iconst (-1), 1) := by decide +kernel
theorem dd_M_clause_149 : decode c_M_clause 149 = .ok (.if_icmp .ne 17, 3) := by decide +kernel
theorem dd_M_clause_152 : decode c_M_clause 152 = .ok (.aload_n 0, 1) := by decide +kernel
theorem dd_M_clause_153 : decode c_M_clause 153 = .ok (.invokevirtual 119, 3) := by decide +kernel
theorem dd_M_clause_156 : decode c_M_clause 156 = .ok (.invokestatic 153, 3) := by decide +kernel
theorem dd_M_clause_159 : decode c_M_clause 159 = .ok (.ifCond .eq 7, 3) := by decide +kernel
theorem dd_M_clause_162 : decode c_M_clause 162 = .ok (.iconst 1, 1) := by decide +kernel
theorem dd_M_clause_163 : decode c_M_clause 163 = .ok (.goto 4, 3) := by decide +kernel
theorem dd_M_clause_166 : decode c_M_clause 166 = .ok (.iconst 0, 1) := by decide +kernel
theorem dd_M_clause_167 : decode c_M_clause 167 = .ok (.istore_n 2, 1) := by decide +kernel
theorem dd_M_clause_168 : decode c_M_clause 168 = .ok (.iload_n 2, 1) := by decide +kernel
theorem dd_M_clause_169 : decode c_M_clause 169 = .ok (.ifCond .eq 15, 3) := by decide +kernel
theorem dd_M_clause_172 : decode c_M_clause 172 = .ok (.aload_n 0, 1) := by decide +kernel
theorem dd_M_clause_173 : decode c_M_clause 173 = .ok (.invokevirtual 162, 3) := by decide +kernel
theorem dd_M_clause_176 : decode c_M_clause 176 = .ok (.aload_n 0, 1) := by decide +kernel
theorem dd_M_clause_177 : decode c_M_clause 177 = .ok (.invokevirtual 165, 3) := by decide +kernel
theorem dd_M_clause_180 : decode c_M_clause 180 = .ok (.aload_n 0, 1) := by decide +kernel
theorem dd_M_clause_181 : decode c_M_clause 181 = .ok (.invokevirtual 168, 3) := by decide +kernel
theorem dd_M_clause_184 : decode c_M_clause 184 = .ok (.aload_n 0, 1) := by decide +kernel
theorem dd_M_clause_185 : decode c_M_clause 185 = .ok (.getfield 28, 3) := by decide +kernel
theorem dd_M_clause_188 : decode c_M_clause 188 = .ok (.iload_n 1, 1) := by decide +kernel
theorem dd_M_clause_189 : decode c_M_clause 189 = .ok (.aload_n 0, 1) := by decide +kernel
theorem dd_M_clause_190 : decode c_M_clause 190 = .ok (.getfield 25, 3) := by decide +kernel
theorem dd_M_clause_193 : decode c_M_clause 193 = .ok (.iload_n 1, 1) := by decide +kernel
theorem dd_M_clause_194 : decode c_M_clause 194 = .ok (.iaload, 1) := by decide +kernel
theorem dd_M_clause_195 : decode c_M_clause 195 = .ok (.iastore, 1) := by decide +kernel
theorem dd_M_clause_196 : decode c_M_clause 196 = .ok (.iload_n 2, 1) := by decide +kernel
theorem dd_M_clause_197 : decode c_M_clause 197 = .ok (.ifCond .eq 54, 3) := by decide +kernel
theorem dd_M_clause_200 : decode c_M_clause 200 = .ok (.aload_n 0, 1) := by decide +kernel
theorem dd_M_clause_201 : decode c_M_clause 201 = .ok (.getfield 107, 3) := by decide +kernel
theorem dd_M_clause_204 : decode c_M_clause 204 = .ok (.iconst (-1), 1) := by decide +kernel
theorem dd_M_clause_205 : decode c_M_clause 205 = .ok (.if_icmp .ne 46, 3) := by decide +kernel
theorem dd_M_clause_208 : decode c_M_clause 208 = .ok (.aload_n 0, 1) := by decide +kernel
theorem dd_M_clause_209 : decode c_M_clause 209 = .ok (.invokevirtual 119, 3) := by decide +kernel
theorem dd_M_clause_212 : decode c_M_clause 212 = .ok (.bipush 63, 2) := by decide +kernel
theorem dd_M_clause_214 : decode c_M_clause 214 = .ok (.if_icmp .eq 8, 3) := by decide +kernel
theorem dd_M_clause_217 : decode c_M_clause 217 = .ok (.aload_n 0, 1) := by decide +kernel
theorem dd_M_clause_218 : decode c_M_clause 218 = .ok (.invokevirtual 116, 3) := by decide +kernel
theorem dd_M_clause_221 : decode c_M_clause 221 = .ok (.return_, 1) := by decide +kernel
theorem dd_M_clause_222 : decode c_M_clause 222 = .ok (.aload_n 0, 1) := by decide +kernel
theorem dd_M_clause_223 : decode c_M_clause 223 = .ok (.dup, 1) := by decide +kernel
theorem dd_M_clause_224 : decode c_M_clause 224 = .ok (.getfield 100, 3) := by decide +kernel
theorem dd_M_clause_227 : decode c_M_clause 227 = .ok (.iconst 1, 1) := by decide +kernel
theorem dd_M_clause_228 : decode c_M_clause 228 = .ok (.iadd, 1) := by decide +kernel
theorem dd_M_clause_229 : decode c_M_clause 229 = .ok (.putfield 100, 3) := by decide +kernel
theorem dd_M_clause_232 : decode c_M_clause 232 = .ok (.aload_n 0, 1) := by decide +kernel
theorem dd_M_clause_233 : decode c_M_clause 233 = .ok (.getfield 28, 3) := by decide +kernel
theorem dd_M_clause_236 : decode c_M_clause 236 = .ok (.iload_n 1, 1) := by decide +kernel
theorem dd_M_clause_237 : decode c_M_clause 237 = .ok (.aload_n 0, 1) := by decide +kernel
theorem dd_M_clause_238 : decode c_M_clause 238 = .ok (.getfield 19, 3) := by decide +kernel
theorem dd_M_clause_241 : decode c_M_clause 241 = .ok (.aload_n 0, 1) := by decide +kernel
theorem dd_M_clause_242 : decode c_M_clause 242 = .ok (.getfield 110, 3) := by decide +kernel
theorem dd_M_clause_245 : decode c_M_clause 245 = .ok (.iaload, 1) := by decide +kernel
theorem dd_M_clause_246 : decode c_M_clause 246 = .ok (.iastore, 1) := by decide +kernel
theorem dd_M_clause_247 : decode c_M_clause 247 = .ok (.aload_n 0, 1) := by decide +kernel
theorem dd_M_clause_248 : decode c_M_clause 248 = .ok (.invokevirtual 140, 3) := by decide +kernel
theorem dd_M_clause_251 : decode c_M_clause 251 = .ok (.aload_n 0, 1) := by decide +kernel
theorem dd_M_clause_252 : decode c_M_clause 252 = .ok (.getfield 31, 3) := by decide +kernel
theorem dd_M_clause_255 : decode c_M_clause 255 = .ok (.iload_n 1, 1) := by decide +kernel
theorem dd_M_clause_256 : decode c_M_clause 256 = .ok (.aload_n 0, 1) := by decide +kernel
theorem dd_M_clause_257 : decode c_M_clause 257 = .ok (.getfield 19, 3) := by decide +kernel
theorem dd_M_clause_260 : decode c_M_clause 260 = .ok (.aload_n 0, 1) := by decide +kernel
theorem dd_M_clause_261 : decode c_M_clause 261 = .ok (.getfield 110, 3) := by decide +kernel
theorem dd_M_clause_264 : decode c_M_clause 264 = .ok (.iaload, 1) := by decide +kernel
theorem dd_M_clause_265 : decode c_M_clause 265 = .ok (.iastore, 1) := by decide +kernel
theorem dd_M_clause_266 : decode c_M_clause 266 = .ok (.aload_n 0, 1) := by decide +kernel
theorem dd_M_clause_267 : decode c_M_clause 267 = .ok (.getfield 22, 3) := by decide +kernel
theorem dd_M_clause_270 : decode c_M_clause 270 = .ok (.aload_n 0, 1) := by decide +kernel
theorem dd_M_clause_271 : decode c_M_clause 271 = .ok (.getfield 110, 3) := by decide +kernel
theorem dd_M_clause_274 : decode c_M_clause 274 = .ok (.dup2, 1) := by decide +kernel
theorem dd_M_clause_275 : decode c_M_clause 275 = .ok (.iaload, 1) := by decide +kernel
theorem dd_M_clause_276 : decode c_M_clause 276 = .ok (.iconst 1, 1) := by decide +kernel
theorem dd_M_clause_277 : decode c_M_clause 277 = .ok (.iadd, 1) := by decide +kernel
theorem dd_M_clause_278 : decode c_M_clause 278 = .ok (.iastore, 1) := by decide +kernel
theorem dd_M_clause_279 : decode c_M_clause 279 = .ok (.return_, 1) := by decide +kernel
theorem dd_M_atEnd_0 : decode c_M_atEnd 0 = .ok (.aload_n 0, 1) := by decide +kernel
theorem dd_M_atEnd_1 : decode c_M_atEnd 1 = .ok (.getfield 107, 3) := by decide +kernel
theorem dd_M_atEnd_4 : decode c_M_atEnd 4 = .ok (.iconst (-1), 1) := by decide +kernel
theorem dd_M_atEnd_5 : decode c_M_atEnd 5 = .ok (.if_icmp .ne 15, 3) := by decide +kernel
theorem dd_M_atEnd_8 : decode c_M_atEnd 8 = .ok (.aload_n 0, 1) := by decide +kernel
theorem dd_M_atEnd_9 : decode c_M_atEnd 9 = .ok (.invokevirtual 119, 3) := by decide +kernel
theorem dd_M_atEnd_12 : decode c_M_atEnd 12 = .ok (.iconst (-1), 1) := by decide +kernel
theorem dd_M_atEnd_13 : decode c_M_atEnd 13 = .ok (.if_icmp .eq 7, 3) := by decide +kernel
theorem dd_M_atEnd_16 : decode c_M_atEnd 16 = .ok (.aload_n 0, 1) := by decide +kernel
theorem dd_M_atEnd_17 : decode c_M_atEnd 17 = .ok (.invokevirtual 116, 3) := by decide +kernel
theorem dd_M_atEnd_20 : decode c_M_atEnd 20 = .ok (.aload_n 0, 1) := by decide +kernel
theorem dd_M_atEnd_21 : decode c_M_atEnd 21 = .ok (.getfield 107, 3) := by decide +kernel
theorem dd_M_atEnd_24 : decode c_M_atEnd 24 = .ok (.ireturn, 1) := by decide +kernel
theorem dd_M_readLaw_0 : decode c_M_readLaw 0 = .ok (.aload_n 0, 1) := by decide +kernel
theorem dd_M_readLaw_1 : decode c_M_readLaw 1 = .ok (.iload_n 1, 1) := by decide +kernel
theorem dd_M_readLaw_2 : decode c_M_readLaw 2 = .ok (.invokevirtual 171, 3) := by decide +kernel
theorem dd_M_readLaw_5 : decode c_M_readLaw 5 = .ok (.aload_n 0, 1) := by decide +kernel
theorem dd_M_readLaw_6 : decode c_M_readLaw 6 = .ok (.invokevirtual 174, 3) := by decide +kernel
theorem dd_M_readLaw_9 : decode c_M_readLaw 9 = .ok (.aload_n 0, 1) := by decide +kernel
theorem dd_M_readLaw_10 : decode c_M_readLaw 10 = .ok (.getfield 107, 3) := by decide +kernel
theorem dd_M_readLaw_13 : decode c_M_readLaw 13 = .ok (.iconst (-1), 1) := by decide +kernel
theorem dd_M_readLaw_14 : decode c_M_readLaw 14 = .ok (.if_icmp .ne 29, 3) := by decide +kernel
theorem dd_M_readLaw_17 : decode c_M_readLaw 17 = .ok (.aload_n 0, 1) := by decide +kernel
theorem dd_M_readLaw_18 : decode c_M_readLaw 18 = .ok (.invokevirtual 119, 3) := by decide +kernel
theorem dd_M_readLaw_21 : decode c_M_readLaw 21 = .ok (.bipush 59, 2) := by decide +kernel
theorem dd_M_readLaw_23 : decode c_M_readLaw 23 = .ok (.if_icmp .ne 20, 3) := by decide +kernel
theorem dd_M_readLaw_26 : decode c_M_readLaw 26 = .ok (.aload_n 0, 1) := by decide +kernel
theorem dd_M_readLaw_27 : decode c_M_readLaw 27 = .ok (.dup, 1) := by decide +kernel
theorem dd_M_readLaw_28 : decode c_M_readLaw 28 = .ok (.getfield 100, 3) := by decide +kernel
theorem dd_M_readLaw_31 : decode c_M_readLaw 31 = .ok (.iconst 1, 1) := by decide +kernel
theorem dd_M_readLaw_32 : decode c_M_readLaw 32 = .ok (.iadd, 1) := by decide +kernel
theorem dd_M_readLaw_33 : decode c_M_readLaw 33 = .ok (.putfield 100, 3) := by decide +kernel
theorem dd_M_readLaw_36 : decode c_M_readLaw 36 = .ok (.aload_n 0, 1) := by decide +kernel
theorem dd_M_readLaw_37 : decode c_M_readLaw 37 = .ok (.invokevirtual 174, 3) := by decide +kernel
theorem dd_M_readLaw_40 : decode c_M_readLaw 40 = .ok (.goto (-31), 3) := by decide +kernel
theorem dd_M_readLaw_43 : decode c_M_readLaw 43 = .ok (.aload_n 0, 1) := by decide +kernel
theorem dd_M_readLaw_44 : decode c_M_readLaw 44 = .ok (.invokevirtual 177, 3) := by decide +kernel
theorem dd_M_readLaw_47 : decode c_M_readLaw 47 = .ok (.ireturn, 1) := by decide +kernel
theorem dd_M_usual_0 : decode c_M_usual 0 = .ok (.iload_n 0, 1) := by decide +kernel
theorem dd_M_usual_1 : decode c_M_usual 1 = .ok (.lookupswitch 76 #[(104, 57), (115, 27)], 27) := by decide +kernel
theorem dd_M_usual_28 : decode c_M_usual 28 = .ok (.iload_n 1, 1) := by decide +kernel
theorem dd_M_usual_29 : decode c_M_usual 29 = .ok (.ifCond .ne 8, 3) := by decide +kernel
theorem dd_M_usual_32 : decode c_M_usual 32 = .ok (.bipush 20, 2) := by decide +kernel
theorem dd_M_usual_34 : decode c_M_usual 34 = .ok (.goto 23, 3) := by decide +kernel
theorem dd_M_usual_37 : decode c_M_usual 37 = .ok (.iload_n 1, 1) := by decide +kernel
theorem dd_M_usual_38 : decode c_M_usual 38 = .ok (.iconst 1, 1) := by decide +kernel
theorem dd_M_usual_39 : decode c_M_usual 39 = .ok (.if_icmp .ne 8, 3) := by decide +kernel
theorem dd_M_usual_42 : decode c_M_usual 42 = .ok (.bipush 63, 2) := by decide +kernel
theorem dd_M_usual_44 : decode c_M_usual 44 = .ok (.goto 13, 3) := by decide +kernel
theorem dd_M_usual_47 : decode c_M_usual 47 = .ok (.iload_n 1, 1) := by decide +kernel
theorem dd_M_usual_48 : decode c_M_usual 48 = .ok (.iconst 2, 1) := by decide +kernel
theorem dd_M_usual_49 : decode c_M_usual 49 = .ok (.if_icmp .ne 7, 3) := by decide +kernel
theorem dd_M_usual_52 : decode c_M_usual 52 = .ok (.iconst 0, 1) := by decide +kernel
theorem dd_M_usual_53 : decode c_M_usual 53 = .ok (.goto 4, 3) := by decide +kernel
theorem dd_M_usual_56 : decode c_M_usual 56 = .ok (.iconst 1, 1) := by decide +kernel
theorem dd_M_usual_57 : decode c_M_usual 57 = .ok (.ireturn, 1) := by decide +kernel
theorem dd_M_usual_58 : decode c_M_usual 58 = .ok (.iload_n 1, 1) := by decide +kernel
theorem dd_M_usual_59 : decode c_M_usual 59 = .ok (.ifCond .ne 7, 3) := by decide +kernel
theorem dd_M_usual_62 : decode c_M_usual 62 = .ok (.iconst 0, 1) := by decide +kernel
theorem dd_M_usual_63 : decode c_M_usual 63 = .ok (.goto 13, 3) := by decide +kernel
theorem dd_M_usual_66 : decode c_M_usual 66 = .ok (.iload_n 1, 1) := by decide +kernel
theorem dd_M_usual_67 : decode c_M_usual 67 = .ok (.iconst 1, 1) := by decide +kernel
theorem dd_M_usual_68 : decode c_M_usual 68 = .ok (.if_icmp .ne 7, 3) := by decide +kernel
theorem dd_M_usual_71 : decode c_M_usual 71 = .ok (.iconst 3, 1) := by decide +kernel
theorem dd_M_usual_72 : decode c_M_usual 72 = .ok (.goto 4, 3) := by decide +kernel
theorem dd_M_usual_75 : decode c_M_usual 75 = .ok (.iconst 2, 1) := by decide +kernel
theorem dd_M_usual_76 : decode c_M_usual 76 = .ok (.ireturn, 1) := by decide +kernel
theorem dd_M_usual_77 : decode c_M_usual 77 = .ok (.iload_n 1, 1) := by decide +kernel
theorem dd_M_usual_78 : decode c_M_usual 78 = .ok (.ifCond .ne 7, 3) := by decide +kernel
theorem dd_M_usual_81 : decode c_M_usual 81 = .ok (.iconst 4, 1) := by decide +kernel
theorem dd_M_usual_82 : decode c_M_usual 82 = .ok (.goto 13, 3) := by decide +kernel
theorem dd_M_usual_85 : decode c_M_usual 85 = .ok (.iload_n 1, 1) := by decide +kernel
theorem dd_M_usual_86 : decode c_M_usual 86 = .ok (.iconst 1, 1) := by decide +kernel
theorem dd_M_usual_87 : decode c_M_usual 87 = .ok (.if_icmp .ne 7, 3) := by decide +kernel
theorem dd_M_usual_90 : decode c_M_usual 90 = .ok (.iconst 2, 1) := by decide +kernel
theorem dd_M_usual_91 : decode c_M_usual 91 = .ok (.goto 4, 3) := by decide +kernel
theorem dd_M_usual_94 : decode c_M_usual 94 = .ok (.iconst 0, 1) := by decide +kernel
theorem dd_M_usual_95 : decode c_M_usual 95 = .ok (.ireturn, 1) := by decide +kernel
theorem dd_M_itemOf_0 : decode c_M_itemOf 0 = .ok (.iload_n 0, 1) := by decide +kernel
theorem dd_M_itemOf_1 : decode c_M_itemOf 1 = .ok (.lookupswitch 101 #[(104, 69), (115, 27)], 27) := by decide +kernel
theorem dd_M_itemOf_28 : decode c_M_itemOf 28 = .ok (.iload_n 1, 1) := by decide +kernel
theorem dd_M_itemOf_29 : decode c_M_itemOf 29 = .ok (.bipush 98, 2) := by decide +kernel
theorem dd_M_itemOf_31 : decode c_M_itemOf 31 = .ok (.if_icmp .ne 7, 3) := by decide +kernel
theorem dd_M_itemOf_34 : decode c_M_itemOf 34 = .ok (.iconst 0, 1) := by decide +kernel
theorem dd_M_itemOf_35 : decode c_M_itemOf 35 = .ok (.goto 34, 3) := by decide +kernel
theorem dd_M_itemOf_38 : decode c_M_itemOf 38 = .ok (.iload_n 1, 1) := by decide +kernel
theorem dd_M_itemOf_39 : decode c_M_itemOf 39 = .ok (.bipush 109, 2) := by decide +kernel
theorem dd_M_itemOf_41 : decode c_M_itemOf 41 = .ok (.if_icmp .ne 7, 3) := by decide +kernel
theorem dd_M_itemOf_44 : decode c_M_itemOf 44 = .ok (.iconst 1, 1) := by decide +kernel
theorem dd_M_itemOf_45 : decode c_M_itemOf 45 = .ok (.goto 24, 3) := by decide +kernel
theorem dd_M_itemOf_48 : decode c_M_itemOf 48 = .ok (.iload_n 1, 1) := by decide +kernel
theorem dd_M_itemOf_49 : decode c_M_itemOf 49 = .ok (.bipush 97, 2) := by decide +kernel
theorem dd_M_itemOf_51 : decode c_M_itemOf 51 = .ok (.if_icmp .ne 7, 3) := by decide +kernel
theorem dd_M_itemOf_54 : decode c_M_itemOf 54 = .ok (.iconst 2, 1) := by decide +kernel
theorem dd_M_itemOf_55 : decode c_M_itemOf 55 = .ok (.goto 14, 3) := by decide +kernel
theorem dd_M_itemOf_58 : decode c_M_itemOf 58 = .ok (.iload_n 1, 1) := by decide +kernel
theorem dd_M_itemOf_59 : decode c_M_itemOf 59 = .ok (.bipush 111, 2) := by decide +kernel
theorem dd_M_itemOf_61 : decode c_M_itemOf 61 = .ok (.if_icmp .ne 7, 3) := by decide +kernel
theorem dd_M_itemOf_64 : decode c_M_itemOf 64 = .ok (.iconst 3, 1) := by decide +kernel
theorem dd_M_itemOf_65 : decode c_M_itemOf 65 = .ok (.goto 4, 3) := by decide +kernel
theorem dd_M_itemOf_68 : decode c_M_itemOf 68 = .ok (.iconst (-1), 1) := by decide +kernel
theorem dd_M_itemOf_69 : decode c_M_itemOf 69 = .ok (.ireturn, 1) := by decide +kernel
theorem dd_M_itemOf_70 : decode c_M_itemOf 70 = .ok (.iload_n 1, 1) := by decide +kernel
theorem dd_M_itemOf_71 : decode c_M_itemOf 71 = .ok (.bipush 107, 2) := by decide +kernel
theorem dd_M_itemOf_73 : decode c_M_itemOf 73 = .ok (.if_icmp .ne 7, 3) := by decide +kernel
theorem dd_M_itemOf_76 : decode c_M_itemOf 76 = .ok (.iconst 0, 1) := by decide +kernel
theorem dd_M_itemOf_77 : decode c_M_itemOf 77 = .ok (.goto 24, 3) := by decide +kernel
theorem dd_M_itemOf_80 : decode c_M_itemOf 80 = .ok (.iload_n 1, 1) := by decide +kernel
theorem dd_M_itemOf_81 : decode c_M_itemOf 81 = .ok (.bipush 99, 2) := by decide +kernel
theorem dd_M_itemOf_83 : decode c_M_itemOf 83 = .ok (.if_icmp .ne 7, 3) := by decide +kernel
theorem dd_M_itemOf_86 : decode c_M_itemOf 86 = .ok (.iconst 1, 1) := by decide +kernel
theorem dd_M_itemOf_87 : decode c_M_itemOf 87 = .ok (.goto 14, 3) := by decide +kernel
theorem dd_M_itemOf_90 : decode c_M_itemOf 90 = .ok (.iload_n 1, 1) := by decide +kernel
theorem dd_M_itemOf_91 : decode c_M_itemOf 91 = .ok (.bipush 119, 2) := by decide +kernel
theorem dd_M_itemOf_93 : decode c_M_itemOf 93 = .ok (.if_icmp .ne 7, 3) := by decide +kernel
theorem dd_M_itemOf_96 : decode c_M_itemOf 96 = .ok (.iconst 2, 1) := by decide +kernel
theorem dd_M_itemOf_97 : decode c_M_itemOf 97 = .ok (.goto 4, 3) := by decide +kernel
theorem dd_M_itemOf_100 : decode c_M_itemOf 100 = .ok (.iconst (-1), 1) := by decide +kernel
theorem dd_M_itemOf_101 : decode c_M_itemOf 101 = .ok (.ireturn, 1) := by decide +kernel
theorem dd_M_itemOf_102 : decode c_M_itemOf 102 = .ok (.iload_n 1, 1) := by decide +kernel
theorem dd_M_itemOf_103 : decode c_M_itemOf 103 = .ok (.bipush 108, 2) := by decide +kernel
theorem dd_M_itemOf_105 : decode c_M_itemOf 105 = .ok (.if_icmp .ne 7, 3) := by decide +kernel
theorem dd_M_itemOf_108 : decode c_M_itemOf 108 = .ok (.iconst 0, 1) := by decide +kernel
theorem dd_M_itemOf_109 : decode c_M_itemOf 109 = .ok (.goto 24, 3) := by decide +kernel
theorem dd_M_itemOf_112 : decode c_M_itemOf 112 = .ok (.iload_n 1, 1) := by decide +kernel
theorem dd_M_itemOf_113 : decode c_M_itemOf 113 = .ok (.bipush 107, 2) := by decide +kernel
theorem dd_M_itemOf_115 : decode c_M_itemOf 115 = .ok (.if_icmp .ne 7, 3) := by decide +kernel
theorem dd_M_itemOf_118 : decode c_M_itemOf 118 = .ok (.iconst 1, 1) := by decide +kernel
theorem dd_M_itemOf_119 : decode c_M_itemOf 119 = .ok (.goto 14, 3) := by decide +kernel
theorem dd_M_itemOf_122 : decode c_M_itemOf 122 = .ok (.iload_n 1, 1) := by decide +kernel
theorem dd_M_itemOf_123 : decode c_M_itemOf 123 = .ok (.bipush 114, 2) := by decide +kernel
theorem dd_M_itemOf_125 : decode c_M_itemOf 125 = .ok (.if_icmp .ne 7, 3) := by decide +kernel
theorem dd_M_itemOf_128 : decode c_M_itemOf 128 = .ok (.iconst 2, 1) := by decide +kernel
theorem dd_M_itemOf_129 : decode c_M_itemOf 129 = .ok (.goto 4, 3) := by decide +kernel
theorem dd_M_itemOf_132 : decode c_M_itemOf 132 = .ok (.iconst (-1), 1) := by decide +kernel
theorem dd_M_itemOf_133 : decode c_M_itemOf 133 = .ok (.ireturn, 1) := by decide +kernel
theorem dd_M_has_0 : decode c_M_has 0 = .ok (.iload_n 0, 1) := by decide +kernel
theorem dd_M_has_1 : decode c_M_has 1 = .ok (.iload_n 1, 1) := by decide +kernel
theorem dd_M_has_2 : decode c_M_has 2 = .ok (.ishr, 1) := by decide +kernel
theorem dd_M_has_3 : decode c_M_has 3 = .ok (.iconst 1, 1) := by decide +kernel
theorem dd_M_has_4 : decode c_M_has 4 = .ok (.iand, 1) := by decide +kernel
theorem dd_M_has_5 : decode c_M_has 5 = .ok (.iconst 1, 1) := by decide +kernel
theorem dd_M_has_6 : decode c_M_has 6 = .ok (.if_icmp .ne 7, 3) := by decide +kernel
theorem dd_M_has_9 : decode c_M_has 9 = .ok (.iconst 1, 1) := by decide +kernel
theorem dd_M_has_10 : decode c_M_has 10 = .ok (.goto 4, 3) := by decide +kernel
theorem dd_M_has_13 : decode c_M_has 13 = .ok (.iconst 0, 1) := by decide +kernel
theorem dd_M_has_14 : decode c_M_has 14 = .ok (.ireturn, 1) := by decide +kernel
theorem dd_M_highest_0 : decode c_M_highest 0 = .ok (.iload_n 0, 1) := by decide +kernel
theorem dd_M_highest_1 : decode c_M_highest 1 = .ok (.lookupswitch 70 #[(104, 58), (115, 27)], 27) := by decide +kernel
theorem dd_M_highest_28 : decode c_M_highest 28 = .ok (.iload_n 1, 1) := by decide +kernel
theorem dd_M_highest_29 : decode c_M_highest 29 = .ok (.ifCond .ne 8, 3) := by decide +kernel
theorem dd_M_highest_32 : decode c_M_highest 32 = .ok (.bipush 99, 2) := by decide +kernel
theorem dd_M_highest_34 : decode c_M_highest 34 = .ok (.goto 24, 3) := by decide +kernel
theorem dd_M_highest_37 : decode c_M_highest 37 = .ok (.iload_n 1, 1) := by decide +kernel
theorem dd_M_highest_38 : decode c_M_highest 38 = .ok (.iconst 1, 1) := by decide +kernel
theorem dd_M_highest_39 : decode c_M_highest 39 = .ok (.if_icmp .ne 8, 3) := by decide +kernel
theorem dd_M_highest_42 : decode c_M_highest 42 = .ok (.bipush 63, 2) := by decide +kernel
theorem dd_M_highest_44 : decode c_M_highest 44 = .ok (.goto 14, 3) := by decide +kernel
theorem dd_M_highest_47 : decode c_M_highest 47 = .ok (.iload_n 1, 1) := by decide +kernel
theorem dd_M_highest_48 : decode c_M_highest 48 = .ok (.iconst 2, 1) := by decide +kernel
theorem dd_M_highest_49 : decode c_M_highest 49 = .ok (.if_icmp .ne 7, 3) := by decide +kernel
theorem dd_M_highest_52 : decode c_M_highest 52 = .ok (.iconst 5, 1) := by decide +kernel
theorem dd_M_highest_53 : decode c_M_highest 53 = .ok (.goto 5, 3) := by decide +kernel
theorem dd_M_highest_56 : decode c_M_highest 56 = .ok (.bipush 9, 2) := by decide +kernel
theorem dd_M_highest_58 : decode c_M_highest 58 = .ok (.ireturn, 1) := by decide +kernel
theorem dd_M_highest_59 : decode c_M_highest 59 = .ok (.iload_n 1, 1) := by decide +kernel
theorem dd_M_highest_60 : decode c_M_highest 60 = .ok (.ifCond .ne 8, 3) := by decide +kernel
theorem dd_M_highest_63 : decode c_M_highest 63 = .ok (.bipush 63, 2) := by decide +kernel
theorem dd_M_highest_65 : decode c_M_highest 65 = .ok (.goto 5, 3) := by decide +kernel
theorem dd_M_highest_68 : decode c_M_highest 68 = .ok (.bipush 9, 2) := by decide +kernel
theorem dd_M_highest_70 : decode c_M_highest 70 = .ok (.ireturn, 1) := by decide +kernel
theorem dd_M_highest_71 : decode c_M_highest 71 = .ok (.iload_n 1, 1) := by decide +kernel
theorem dd_M_highest_72 : decode c_M_highest 72 = .ok (.iconst 2, 1) := by decide +kernel
theorem dd_M_highest_73 : decode c_M_highest 73 = .ok (.if_icmp .ne 7, 3) := by decide +kernel
theorem dd_M_highest_76 : decode c_M_highest 76 = .ok (.iconst 1, 1) := by decide +kernel
theorem dd_M_highest_77 : decode c_M_highest 77 = .ok (.goto 5, 3) := by decide +kernel
theorem dd_M_highest_80 : decode c_M_highest 80 = .ok (.bipush 9, 2) := by decide +kernel
theorem dd_M_highest_82 : decode c_M_highest 82 = .ok (.ireturn, 1) := by decide +kernel
theorem dd_M_in_0 : decode c_M_in 0 = .ok (.iload_n 0, 1) := by decide +kernel
theorem dd_M_in_1 : decode c_M_in 1 = .ok (.iload_n 1, 1) := by decide +kernel
theorem dd_M_in_2 : decode c_M_in 2 = .ok (.if_icmp .lt 12, 3) := by decide +kernel
theorem dd_M_in_5 : decode c_M_in 5 = .ok (.iload_n 0, 1) := by decide +kernel
theorem dd_M_in_6 : decode c_M_in 6 = .ok (.iload_n 2, 1) := by decide +kernel
theorem dd_M_in_7 : decode c_M_in 7 = .ok (.if_icmp .gt 7, 3) := by decide +kernel
theorem dd_M_in_10 : decode c_M_in 10 = .ok (.iconst 1, 1) := by decide +kernel
theorem dd_M_in_11 : decode c_M_in 11 = .ok (.goto 4, 3) := by decide +kernel
theorem dd_M_in_14 : decode c_M_in 14 = .ok (.iconst 0, 1) := by decide +kernel
theorem dd_M_in_15 : decode c_M_in 15 = .ok (.ireturn, 1) := by decide +kernel
theorem dd_M_number_0 : decode c_M_number 0 = .ok (.aload_n 0, 1) := by decide +kernel
theorem dd_M_number_1 : decode c_M_number 1 = .ok (.invokevirtual 119, 3) := by decide +kernel
theorem dd_M_number_4 : decode c_M_number 4 = .ok (.invokestatic 122, 3) := by decide +kernel
theorem dd_M_number_7 : decode c_M_number 7 = .ok (.ifCond .ne 9, 3) := by decide +kernel
theorem dd_M_number_10 : decode c_M_number 10 = .ok (.aload_n 0, 1) := by decide +kernel
theorem dd_M_number_11 : decode c_M_number 11 = .ok (.invokevirtual 116, 3) := by decide +kernel
theorem dd_M_number_14 : decode c_M_number 14 = .ok (.iload_n 1, 1) := by decide +kernel
theorem dd_M_number_15 : decode c_M_number 15 = .ok (.ireturn, 1) := by decide +kernel
theorem dd_M_number_16 : decode c_M_number 16 = .ok (.aload_n 0, 1) := by decide +kernel
theorem dd_M_number_17 : decode c_M_number 17 = .ok (.invokevirtual 103, 3) := by decide +kernel
theorem dd_M_number_20 : decode c_M_number 20 = .ok (.bipush 48, 2) := by decide +kernel
theorem dd_M_number_22 : decode c_M_number 22 = .ok (.isub, 1) := by decide +kernel
theorem dd_M_number_23 : decode c_M_number 23 = .ok (.istore_n 3, 1) := by decide +kernel
theorem dd_M_number_24 : decode c_M_number 24 = .ok (.aload_n 0, 1) := by decide +kernel
theorem dd_M_number_25 : decode c_M_number 25 = .ok (.dup, 1) := by decide +kernel
theorem dd_M_number_26 : decode c_M_number 26 = .ok (.getfield 100, 3) := by decide +kernel
theorem dd_M_number_29 : decode c_M_number 29 = .ok (.iconst 1, 1) := by decide +kernel
theorem dd_M_number_30 : decode c_M_number 30 = .ok (.iadd, 1) := by decide +kernel
theorem dd_M_number_31 : decode c_M_number 31 = .ok (.putfield 100, 3) := by decide +kernel
theorem dd_M_number_34 : decode c_M_number 34 = .ok (.aload_n 0, 1) := by decide +kernel
theorem dd_M_number_35 : decode c_M_number 35 = .ok (.invokevirtual 103, 3) := by decide +kernel
theorem dd_M_number_38 : decode c_M_number 38 = .ok (.invokestatic 122, 3) := by decide +kernel
theorem dd_M_number_41 : decode c_M_number 41 = .ok (.ifCond .eq 26, 3) := by decide +kernel
theorem dd_M_number_44 : decode c_M_number 44 = .ok (.bipush 10, 2) := by decide +kernel
theorem dd_M_number_46 : decode c_M_number 46 = .ok (.iload_n 3, 1) := by decide +kernel
theorem dd_M_number_47 : decode c_M_number 47 = .ok (.imul, 1) := by decide +kernel
theorem dd_M_number_48 : decode c_M_number 48 = .ok (.aload_n 0, 1) := by decide +kernel
theorem dd_M_number_49 : decode c_M_number 49 = .ok (.invokevirtual 103, 3) := by decide +kernel
theorem dd_M_number_52 : decode c_M_number 52 = .ok (.iadd, 1) := by decide +kernel
theorem dd_M_number_53 : decode c_M_number 53 = .ok (.bipush 48, 2) := by decide +kernel
theorem dd_M_number_55 : decode c_M_number 55 = .ok (.isub, 1) := by decide +kernel
theorem dd_M_number_56 : decode c_M_number 56 = .ok (.istore_n 3, 1) := by decide +kernel
theorem dd_M_number_57 : decode c_M_number 57 = .ok (.aload_n 0, 1) := by decide +kernel
theorem dd_M_number_58 : decode c_M_number 58 = .ok (.dup, 1) := by decide +kernel
theorem dd_M_number_59 : decode c_M_number 59 = .ok (.getfield 100, 3) := by decide +kernel
theorem dd_M_number_62 : decode c_M_number 62 = .ok (.iconst 1, 1) := by decide +kernel
theorem dd_M_number_63 : decode c_M_number 63 = .ok (.iadd, 1) := by decide +kernel
theorem dd_M_number_64 : decode c_M_number 64 = .ok (.putfield 100, 3) := by decide +kernel
theorem dd_M_number_67 : decode c_M_number 67 = .ok (.aload_n 0, 1) := by decide +kernel
theorem dd_M_number_68 : decode c_M_number 68 = .ok (.invokevirtual 103, 3) := by decide +kernel
theorem dd_M_number_71 : decode c_M_number 71 = .ok (.invokestatic 122, 3) := by decide +kernel
theorem dd_M_number_74 : decode c_M_number 74 = .ok (.ifCond .eq 10, 3) := by decide +kernel
theorem dd_M_number_77 : decode c_M_number 77 = .ok (.aload_n 0, 1) := by decide +kernel
theorem dd_M_number_78 : decode c_M_number 78 = .ok (.invokevirtual 116, 3) := by decide +kernel
theorem dd_M_number_81 : decode c_M_number 81 = .ok (.goto 26, 3) := by decide +kernel
theorem dd_M_number_84 : decode c_M_number 84 = .ok (.iload_n 3, 1) := by decide +kernel
theorem dd_M_number_85 : decode c_M_number 85 = .ok (.iload_n 1, 1) := by decide +kernel
theorem dd_M_number_86 : decode c_M_number 86 = .ok (.iload_n 2, 1) := by decide +kernel
theorem dd_M_number_87 : decode c_M_number 87 = .ok (.invokestatic 205, 3) := by decide +kernel
theorem dd_M_number_90 : decode c_M_number 90 = .ok (.ifCond .ne 17, 3) := by decide +kernel
theorem dd_M_number_93 : decode c_M_number 93 = .ok (.aload_n 0, 1) := by decide +kernel
theorem dd_M_number_94 : decode c_M_number 94 = .ok (.dup, 1) := by decide +kernel
theorem dd_M_number_95 : decode c_M_number 95 = .ok (.getfield 100, 3) := by decide +kernel
theorem dd_M_number_98 : decode c_M_number 98 = .ok (.iconst 1, 1) := by decide +kernel
theorem dd_M_number_99 : decode c_M_number 99 = .ok (.isub, 1) := by decide +kernel
theorem dd_M_number_100 : decode c_M_number 100 = .ok (.putfield 100, 3) := by decide +kernel
theorem dd_M_number_103 : decode c_M_number 103 = .ok (.aload_n 0, 1) := by decide +kernel
theorem dd_M_number_104 : decode c_M_number 104 = .ok (.invokevirtual 116, 3) := by decide +kernel
theorem dd_M_number_107 : decode c_M_number 107 = .ok (.iload_n 3, 1) := by decide +kernel
theorem dd_M_number_108 : decode c_M_number 108 = .ok (.ireturn, 1) := by decide +kernel
theorem dd_M_items_0 : decode c_M_items 0 = .ok (.iconst 0, 1) := by decide +kernel
theorem dd_M_items_1 : decode c_M_items 1 = .ok (.istore 5, 2) := by decide +kernel
theorem dd_M_items_3 : decode c_M_items 3 = .ok (.iload 5, 2) := by decide +kernel
theorem dd_M_items_5 : decode c_M_items 5 = .ok (.iload 4, 2) := by decide +kernel
theorem dd_M_items_7 : decode c_M_items 7 = .ok (.if_icmp .ge 21, 3) := by decide +kernel
theorem dd_M_items_10 : decode c_M_items 10 = .ok (.aload_n 2, 1) := by decide +kernel
theorem dd_M_items_11 : decode c_M_items 11 = .ok (.iload_n 3, 1) := by decide +kernel
theorem dd_M_items_12 : decode c_M_items 12 = .ok (.iload 5, 2) := by decide +kernel
theorem dd_M_items_14 : decode c_M_items 14 = .ok (.iadd, 1) := by decide +kernel
theorem dd_M_items_15 : decode c_M_items 15 = .ok (.iload_n 1, 1) := by decide +kernel
theorem dd_M_items_16 : decode c_M_items 16 = .ok (.iload 5, 2) := by decide +kernel
theorem dd_M_items_18 : decode c_M_items 18 = .ok (.invokestatic 209, 3) := by decide +kernel
theorem dd_M_items_21 : decode c_M_items 21 = .ok (.iastore, 1) := by decide +kernel
theorem dd_M_items_22 : decode c_M_items 22 = .ok (.iinc 5 1, 3) := by decide +kernel
theorem dd_M_items_25 : decode c_M_items 25 = .ok (.goto (-22), 3) := by decide +kernel
theorem dd_M_items_28 : decode c_M_items 28 = .ok (.iconst 0, 1) := by decide +kernel
theorem dd_M_items_29 : decode c_M_items 29 = .ok (.istore 5, 2) := by decide +kernel
theorem dd_M_items_31 : decode c_M_items 31 = .ok (.iload_n 1, 1) := by decide +kernel
theorem dd_M_items_32 : decode c_M_items 32 = .ok (.aload_n 0, 1) := by decide +kernel
theorem dd_M_items_33 : decode c_M_items 33 = .ok (.invokevirtual 119, 3) := by decide +kernel
theorem dd_M_items_36 : decode c_M_items 36 = .ok (.invokestatic 213, 3) := by decide +kernel
theorem dd_M_items_39 : decode c_M_items 39 = .ok (.istore 6, 2) := by decide +kernel
theorem dd_M_items_41 : decode c_M_items 41 = .ok (.aload_n 0, 1) := by decide +kernel
theorem dd_M_items_42 : decode c_M_items 42 = .ok (.getfield 107, 3) := by decide +kernel
theorem dd_M_items_45 : decode c_M_items 45 = .ok (.iconst (-1), 1) := by decide +kernel
theorem dd_M_items_46 : decode c_M_items 46 = .ok (.if_icmp .ne 95, 3) := by decide +kernel
theorem dd_M_items_49 : decode c_M_items 49 = .ok (.iload 6, 2) := by decide +kernel
theorem dd_M_items_51 : decode c_M_items 51 = .ok (.iconst (-1), 1) := by decide +kernel
theorem dd_M_items_52 : decode c_M_items 52 = .ok (.if_icmp .eq 89, 3) := by decide +kernel
theorem dd_M_items_55 : decode c_M_items 55 = .ok (.iload 5, 2) := by decide +kernel
theorem dd_M_items_57 : decode c_M_items 57 = .ok (.iload 6, 2) := by decide +kernel
theorem dd_M_items_59 : decode c_M_items 59 = .ok (.invokestatic 216, 3) := by decide +kernel
theorem dd_M_items_62 : decode c_M_items 62 = .ok (.ifCond .ne 79, 3) := by decide +kernel
theorem dd_M_items_65 : decode c_M_items 65 = .ok (.iload 5, 2) := by decide +kernel
theorem dd_M_items_67 : decode c_M_items 67 = .ok (.iconst 1, 1) := by decide +kernel
theorem dd_M_items_68 : decode c_M_items 68 = .ok (.iload 6, 2) := by decide +kernel
theorem dd_M_items_70 : decode c_M_items 70 = .ok (.ishl, 1) := by decide +kernel
theorem dd_M_items_71 : decode c_M_items 71 = .ok (.ior, 1) := by decide +kernel
theorem dd_M_items_72 : decode c_M_items 72 = .ok (.istore 5, 2) := by decide +kernel
theorem dd_M_items_74 : decode c_M_items 74 = .ok (.aload_n 0, 1) := by decide +kernel
theorem dd_M_items_75 : decode c_M_items 75 = .ok (.dup, 1) := by decide +kernel
theorem dd_M_items_76 : decode c_M_items 76 = .ok (.getfield 100, 3) := by decide +kernel
theorem dd_M_items_79 : decode c_M_items 79 = .ok (.iconst 1, 1) := by decide +kernel
theorem dd_M_items_80 : decode c_M_items 80 = .ok (.iadd, 1) := by decide +kernel
theorem dd_M_items_81 : decode c_M_items 81 = .ok (.putfield 100, 3) := by decide +kernel
theorem dd_M_items_84 : decode c_M_items 84 = .ok (.aload_n 2, 1) := by decide +kernel
theorem dd_M_items_85 : decode c_M_items 85 = .ok (.iload_n 3, 1) := by decide +kernel
theorem dd_M_items_86 : decode c_M_items 86 = .ok (.iload 6, 2) := by decide +kernel
theorem dd_M_items_88 : decode c_M_items 88 = .ok (.iadd, 1) := by decide +kernel
theorem dd_M_items_89 : decode c_M_items 89 = .ok (.aload_n 0, 1) := by decide +kernel
theorem dd_M_items_90 : decode c_M_items 90 = .ok (.iload_n 1, 1) := by decide +kernel
theorem dd_M_items_91 : decode c_M_items 91 = .ok (.bipush 116, 2) := by decide +kernel
theorem dd_M_items_93 : decode c_M_items 93 = .ok (.if_icmp .ne 12, 3) := by decide +kernel
theorem dd_M_items_96 : decode c_M_items 96 = .ok (.iload 6, 2) := by decide +kernel
theorem dd_M_items_98 : decode c_M_items 98 = .ok (.ifCond .ne 7, 3) := by decide +kernel
theorem dd_M_items_101 : decode c_M_items 101 = .ok (.iconst 1, 1) := by decide +kernel
theorem dd_M_items_102 : decode c_M_items 102 = .ok (.goto 4, 3) := by decide +kernel
theorem dd_M_items_105 : decode c_M_items 105 = .ok (.iconst 0, 1) := by decide +kernel
theorem dd_M_items_106 : decode c_M_items 106 = .ok (.iload_n 1, 1) := by decide +kernel
theorem dd_M_items_107 : decode c_M_items 107 = .ok (.iload 6, 2) := by decide +kernel
theorem dd_M_items_109 : decode c_M_items 109 = .ok (.invokestatic 220, 3) := by decide +kernel
theorem dd_M_items_112 : decode c_M_items 112 = .ok (.invokevirtual 223, 3) := by decide +kernel
theorem dd_M_items_115 : decode c_M_items 115 = .ok (.iastore, 1) := by decide +kernel
theorem dd_M_items_116 : decode c_M_items 116 = .ok (.aload_n 0, 1) := by decide +kernel
theorem dd_M_items_117 : decode c_M_items 117 = .ok (.getfield 107, 3) := by decide +kernel
theorem dd_M_items_120 : decode c_M_items 120 = .ok (.iconst (-1), 1) := by decide +kernel
theorem dd_M_items_121 : decode c_M_items 121 = .ok (.if_icmp .ne 14, 3) := by decide +kernel
theorem dd_M_items_124 : decode c_M_items 124 = .ok (.iload_n 1, 1) := by decide +kernel
theorem dd_M_items_125 : decode c_M_items 125 = .ok (.aload_n 0, 1) := by decide +kernel
theorem dd_M_items_126 : decode c_M_items 126 = .ok (.invokevirtual 119, 3) := by decide +kernel
theorem dd_M_items_129 : decode c_M_items 129 = .ok (.invokestatic 213, 3) := by decide +kernel
theorem dd_M_items_132 : decode c_M_items 132 = .ok (.goto 4, 3) := by decide +kernel
theorem dd_M_items_135 : decode c_M_items 135 = .ok (.iconst (-1), 1) := by decide +kernel
theorem dd_M_items_136 : decode c_M_items 136 = .ok (.istore 6, 2) := by decide +kernel
theorem dd_M_items_138 : decode c_M_items 138 = .ok (.goto (-97), 3) := by decide +kernel
theorem dd_M_items_141 : decode c_M_items 141 = .ok (.return_, 1) := by decide +kernel
theorem dd_M_readCoast_0 : decode c_M_readCoast 0 = .ok (.aload_n 0, 1) := by decide +kernel
theorem dd_M_readCoast_1 : decode c_M_readCoast 1 = .ok (.iconst 0, 1) := by decide +kernel
theorem dd_M_readCoast_2 : decode c_M_readCoast 2 = .ok (.putfield 100, 3) := by decide +kernel
theorem dd_M_readCoast_5 : decode c_M_readCoast 5 = .ok (.aload_n 0, 1) := by decide +kernel
theorem dd_M_readCoast_6 : decode c_M_readCoast 6 = .ok (.iconst (-1), 1) := by decide +kernel
theorem dd_M_readCoast_7 : decode c_M_readCoast 7 = .ok (.putfield 107, 3) := by decide +kernel
theorem dd_M_readCoast_10 : decode c_M_readCoast 10 = .ok (.aload_n 0, 1) := by decide +kernel
theorem dd_M_readCoast_11 : decode c_M_readCoast 11 = .ok (.iconst 0, 1) := by decide +kernel
theorem dd_M_readCoast_12 : decode c_M_readCoast 12 = .ok (.putfield 226, 3) := by decide +kernel
theorem dd_M_readCoast_15 : decode c_M_readCoast 15 = .ok (.aload_n 0, 1) := by decide +kernel
theorem dd_M_readCoast_16 : decode c_M_readCoast 16 = .ok (.iconst 0, 1) := by decide +kernel
theorem dd_M_readCoast_17 : decode c_M_readCoast 17 = .ok (.putfield 229, 3) := by decide +kernel
theorem dd_M_readCoast_20 : decode c_M_readCoast 20 = .ok (.iconst 0, 1) := by decide +kernel
theorem dd_M_readCoast_21 : decode c_M_readCoast 21 = .ok (.istore_n 1, 1) := by decide +kernel
theorem dd_M_readCoast_22 : decode c_M_readCoast 22 = .ok (.iconst 0, 1) := by decide +kernel
theorem dd_M_readCoast_23 : decode c_M_readCoast 23 = .ok (.istore_n 2, 1) := by decide +kernel
theorem dd_M_readCoast_24 : decode c_M_readCoast 24 = .ok (.iload_n 2, 1) := by decide +kernel
theorem dd_M_readCoast_25 : decode c_M_readCoast 25 = .ok (.iconst 4, 1) := by decide +kernel
theorem dd_M_readCoast_26 : decode c_M_readCoast 26 = .ok (.if_icmp .ge 21, 3) := by decide +kernel
theorem dd_M_readCoast_29 : decode c_M_readCoast 29 = .ok (.aload_n 0, 1) := by decide +kernel
theorem dd_M_readCoast_30 : decode c_M_readCoast 30 = .ok (.getfield 40, 3) := by decide +kernel
theorem dd_M_readCoast_33 : decode c_M_readCoast 33 = .ok (.iload_n 2, 1) := by decide +kernel
theorem dd_M_readCoast_34 : decode c_M_readCoast 34 = .ok (.bipush 115, 2) := by decide +kernel
theorem dd_M_readCoast_36 : decode c_M_readCoast 36 = .ok (.iload_n 2, 1) := by decide +kernel
theorem dd_M_readCoast_37 : decode c_M_readCoast 37 = .ok (.invokestatic 209, 3) := by decide +kernel
theorem dd_M_readCoast_40 : decode c_M_readCoast 40 = .ok (.iastore, 1) := by decide +kernel
theorem dd_M_readCoast_41 : decode c_M_readCoast 41 = .ok (.iinc 2 1, 3) := by decide +kernel
theorem dd_M_readCoast_44 : decode c_M_readCoast 44 = .ok (.goto (-20), 3) := by decide +kernel
theorem dd_M_readCoast_47 : decode c_M_readCoast 47 = .ok (.iconst 1, 1) := by decide +kernel
theorem dd_M_readCoast_48 : decode c_M_readCoast 48 = .ok (.istore_n 2, 1) := by decide +kernel
theorem dd_M_readCoast_49 : decode c_M_readCoast 49 = .ok (.iload_n 2, 1) := by decide +kernel
theorem dd_M_readCoast_50 : decode c_M_readCoast 50 = .ok (.ifCond .eq 208, 3) := by decide +kernel
theorem dd_M_readCoast_53 : decode c_M_readCoast 53 = .ok (.aload_n 0, 1) := by decide +kernel
theorem dd_M_readCoast_54 : decode c_M_readCoast 54 = .ok (.getfield 107, 3) := by decide +kernel
theorem dd_M_readCoast_57 : decode c_M_readCoast 57 = .ok (.iconst (-1), 1) := by decide +kernel
theorem dd_M_readCoast_58 : decode c_M_readCoast 58 = .ok (.if_icmp .ne 200, 3) := by decide +kernel
theorem dd_M_readCoast_61 : decode c_M_readCoast 61 = .ok (.aload_n 0, 1) := by decide +kernel
theorem dd_M_readCoast_62 : decode c_M_readCoast 62 = .ok (.invokevirtual 119, 3) := by decide +kernel
theorem dd_M_readCoast_65 : decode c_M_readCoast 65 = .ok (.istore_n 3, 1) := by decide +kernel
theorem dd_M_readCoast_66 : decode c_M_readCoast 66 = .ok (.iload_n 3, 1) := by decide +kernel
theorem dd_M_readCoast_67 : decode c_M_readCoast 67 = .ok (.bipush 115, 2) := by decide +kernel
theorem dd_M_readCoast_69 : decode c_M_readCoast 69 = .ok (.if_icmp .ne 33, 3) := by decide +kernel
theorem dd_M_readCoast_72 : decode c_M_readCoast 72 = .ok (.iload_n 1, 1) := by decide +kernel
theorem dd_M_readCoast_73 : decode c_M_readCoast 73 = .ok (.ifCond .ne 29, 3) := by decide +kernel
theorem dd_M_readCoast_76 : decode c_M_readCoast 76 = .ok (.iconst 1, 1) := by decide +kernel
theorem dd_M_readCoast_77 : decode c_M_readCoast 77 = .ok (.istore_n 1, 1) := by decide +kernel
theorem dd_M_readCoast_78 : decode c_M_readCoast 78 = .ok (.aload_n 0, 1) := by decide +kernel
theorem dd_M_readCoast_79 : decode c_M_readCoast 79 = .ok (.dup, 1) := by decide +kernel
theorem dd_M_readCoast_80 : decode c_M_readCoast 80 = .ok (.getfield 100, 3) := by decide +kernel
theorem dd_M_readCoast_83 : decode c_M_readCoast 83 = .ok (.iconst 1, 1) := by decide +kernel
theorem dd_M_readCoast_84 : decode c_M_readCoast 84 = .ok (.iadd, 1) := by decide +kernel
theorem dd_M_readCoast_85 : decode c_M_readCoast 85 = .ok (.putfield 100, 3) := by decide +kernel
theorem dd_M_readCoast_88 : decode c_M_readCoast 88 = .ok (.aload_n 0, 1) := by decide +kernel
theorem dd_M_readCoast_89 : decode c_M_readCoast 89 = .ok (.iload_n 3, 1) := by decide +kernel
theorem dd_M_readCoast_90 : decode c_M_readCoast 90 = .ok (.aload_n 0, 1) := by decide +kernel
theorem dd_M_readCoast_91 : decode c_M_readCoast 91 = .ok (.getfield 40, 3) := by decide +kernel
theorem dd_M_readCoast_94 : decode c_M_readCoast 94 = .ok (.iconst 0, 1) := by decide +kernel
theorem dd_M_readCoast_95 : decode c_M_readCoast 95 = .ok (.iconst 4, 1) := by decide +kernel
theorem dd_M_readCoast_96 : decode c_M_readCoast 96 = .ok (.invokevirtual 232, 3) := by decide +kernel
theorem dd_M_readCoast_99 : decode c_M_readCoast 99 = .ok (.goto 115, 3) := by decide +kernel
theorem dd_M_readCoast_102 : decode c_M_readCoast 102 = .ok (.iload_n 3, 1) := by decide +kernel
theorem dd_M_readCoast_103 : decode c_M_readCoast 103 = .ok (.bipush 104, 2) := by decide +kernel
theorem dd_M_readCoast_105 : decode c_M_readCoast 105 = .ok (.if_icmp .ne 51, 3) := by decide +kernel
theorem dd_M_readCoast_108 : decode c_M_readCoast 108 = .ok (.aload_n 0, 1) := by decide +kernel
theorem dd_M_readCoast_109 : decode c_M_readCoast 109 = .ok (.getfield 226, 3) := by decide +kernel
theorem dd_M_readCoast_112 : decode c_M_readCoast 112 = .ok (.bipush 6, 2) := by decide +kernel
theorem dd_M_readCoast_114 : decode c_M_readCoast 114 = .ok (.if_icmp .ge 42, 3) := by decide +kernel
theorem dd_M_readCoast_117 : decode c_M_readCoast 117 = .ok (.aload_n 0, 1) := by decide +kernel
theorem dd_M_readCoast_118 : decode c_M_readCoast 118 = .ok (.dup, 1) := by decide +kernel
theorem dd_M_readCoast_119 : decode c_M_readCoast 119 = .ok (.getfield 100, 3) := by decide +kernel
theorem dd_M_readCoast_122 : decode c_M_readCoast 122 = .ok (.iconst 1, 1) := by decide +kernel
theorem dd_M_readCoast_123 : decode c_M_readCoast 123 = .ok (.iadd, 1) := by decide +kernel
theorem dd_M_readCoast_124 : decode c_M_readCoast 124 = .ok (.putfield 100, 3) := by decide +kernel
theorem dd_M_readCoast_127 : decode c_M_readCoast 127 = .ok (.aload_n 0, 1) := by decide +kernel
theorem dd_M_readCoast_128 : decode c_M_readCoast 128 = .ok (.iload_n 3, 1) := by decide +kernel
theorem dd_M_readCoast_129 : decode c_M_readCoast 129 = .ok (.aload_n 0, 1) := by decide +kernel
theorem dd_M_readCoast_130 : decode c_M_readCoast 130 = .ok (.getfield 43, 3) := by decide +kernel
theorem dd_M_readCoast_133 : decode c_M_readCoast 133 = .ok (.iconst 3, 1) := by decide +kernel
theorem dd_M_readCoast_134 : decode c_M_readCoast 134 = .ok (.aload_n 0, 1) := by decide +kernel
theorem dd_M_readCoast_135 : decode c_M_readCoast 135 = .ok (.getfield 226, 3) := by decide +kernel
theorem dd_M_readCoast_138 : decode c_M_readCoast 138 = .ok (.imul, 1) := by decide +kernel
theorem dd_M_readCoast_139 : decode c_M_readCoast 139 = .ok (.iconst 3, 1) := by decide +kernel
theorem dd_M_readCoast_140 : decode c_M_readCoast 140 = .ok (.invokevirtual 232, 3) := by decide +kernel
theorem dd_M_readCoast_143 : decode c_M_readCoast 143 = .ok (.aload_n 0, 1) := by decide +kernel
theorem dd_M_readCoast_144 : decode c_M_readCoast 144 = .ok (.dup, 1) := by decide +kernel
theorem dd_M_readCoast_145 : decode c_M_readCoast 145 = .ok (.getfield 226, 3) := by decide +kernel
theorem dd_M_readCoast_148 : decode c_M_readCoast 148 = .ok (.iconst 1, 1) := by decide +kernel
theorem dd_M_readCoast_149 : decode c_M_readCoast 149 = .ok (.iadd, 1) := by decide +kernel
theorem dd_M_readCoast_150 : decode c_M_readCoast 150 = .ok (.putfield 226, 3) := by decide +kernel
theorem dd_M_readCoast_153 : decode c_M_readCoast 153 = .ok (.goto 61, 3) := by decide +kernel
theorem dd_M_readCoast_156 : decode c_M_readCoast 156 = .ok (.iload_n 3, 1) := by decide +kernel
theorem dd_M_readCoast_157 : decode c_M_readCoast 157 = .ok (.bipush 116, 2) := by decide +kernel
theorem dd_M_readCoast_159 : decode c_M_readCoast 159 = .ok (.if_icmp .ne 51, 3) := by decide +kernel
theorem dd_M_readCoast_162 : decode c_M_readCoast 162 = .ok (.aload_n 0, 1) := by decide +kernel
theorem dd_M_readCoast_163 : decode c_M_readCoast 163 = .ok (.getfield 229, 3) := by decide +kernel
theorem dd_M_readCoast_166 : decode c_M_readCoast 166 = .ok (.bipush 6, 2) := by decide +kernel
theorem dd_M_readCoast_168 : decode c_M_readCoast 168 = .ok (.if_icmp .ge 42, 3) := by decide +kernel
theorem dd_M_readCoast_171 : decode c_M_readCoast 171 = .ok (.aload_n 0, 1) := by decide +kernel
theorem dd_M_readCoast_172 : decode c_M_readCoast 172 = .ok (.dup, 1) := by decide +kernel
theorem dd_M_readCoast_173 : decode c_M_readCoast 173 = .ok (.getfield 100, 3) := by decide +kernel
theorem dd_M_readCoast_176 : decode c_M_readCoast 176 = .ok (.iconst 1, 1) := by decide +kernel
theorem dd_M_readCoast_177 : decode c_M_readCoast 177 = .ok (.iadd, 1) := by decide +kernel
theorem dd_M_readCoast_178 : decode c_M_readCoast 178 = .ok (.putfield 100, 3) := by decide +kernel
theorem dd_M_readCoast_181 : decode c_M_readCoast 181 = .ok (.aload_n 0, 1) := by decide +kernel
theorem dd_M_readCoast_182 : decode c_M_readCoast 182 = .ok (.iload_n 3, 1) := by decide +kernel
theorem dd_M_readCoast_183 : decode c_M_readCoast 183 = .ok (.aload_n 0, 1) := by decide +kernel
theorem dd_M_readCoast_184 : decode c_M_readCoast 184 = .ok (.getfield 46, 3) := by decide +kernel
theorem dd_M_readCoast_187 : decode c_M_readCoast 187 = .ok (.iconst 3, 1) := by decide +kernel
theorem dd_M_readCoast_188 : decode c_M_readCoast 188 = .ok (.aload_n 0, 1) := by decide +kernel
theorem dd_M_readCoast_189 : decode c_M_readCoast 189 = .ok (.getfield 229, 3) := by decide +kernel
theorem dd_M_readCoast_192 : decode c_M_readCoast 192 = .ok (.imul, 1) := by decide +kernel
theorem dd_M_readCoast_193 : decode c_M_readCoast 193 = .ok (.iconst 3, 1) := by decide +kernel
theorem dd_M_readCoast_194 : decode c_M_readCoast 194 = .ok (.invokevirtual 232, 3) := by decide +kernel
theorem dd_M_readCoast_197 : decode c_M_readCoast 197 = .ok (.aload_n 0, 1) := by decide +kernel
theorem dd_M_readCoast_198 : decode c_M_readCoast 198 = .ok (.dup, 1) := by decide +kernel
theorem dd_M_readCoast_199 : decode c_M_readCoast 199 = .ok (.getfield 229, 3) := by decide +kernel
theorem dd_M_readCoast_202 : decode c_M_readCoast 202 = .ok (.iconst 1, 1) := by decide +kernel
theorem dd_M_readCoast_203 : decode c_M_readCoast 203 = .ok (.iadd, 1) := by decide +kernel
theorem dd_M_readCoast_204 : decode c_M_readCoast 204 = .ok (.putfield 229, 3) := by decide +kernel
theorem dd_M_readCoast_207 : decode c_M_readCoast 207 = .ok (.goto 7, 3) := by decide +kernel
theorem dd_M_readCoast_210 : decode c_M_readCoast 210 = .ok (.aload_n 0, 1) := by decide +kernel
theorem dd_M_readCoast_211 : decode c_M_readCoast 211 = .ok (.invokevirtual 116, 3) := by decide +kernel
theorem dd_M_readCoast_214 : decode c_M_readCoast 214 = .ok (.aload_n 0, 1) := by decide +kernel
theorem dd_M_readCoast_215 : decode c_M_readCoast 215 = .ok (.getfield 107, 3) := by decide +kernel
theorem dd_M_readCoast_218 : decode c_M_readCoast 218 = .ok (.iconst (-1), 1) := by decide +kernel
theorem dd_M_readCoast_219 : decode c_M_readCoast 219 = .ok (.if_icmp .ne 16, 3) := by decide +kernel
theorem dd_M_readCoast_222 : decode c_M_readCoast 222 = .ok (.aload_n 0, 1) := by decide +kernel
theorem dd_M_readCoast_223 : decode c_M_readCoast 223 = .ok (.invokevirtual 119, 3) := by decide +kernel
theorem dd_M_readCoast_226 : decode c_M_readCoast 226 = .ok (.bipush 59, 2) := by decide +kernel
theorem dd_M_readCoast_228 : decode c_M_readCoast 228 = .ok (.if_icmp .ne 7, 3) := by decide +kernel
theorem dd_M_readCoast_231 : decode c_M_readCoast 231 = .ok (.iconst 1, 1) := by decide +kernel
theorem dd_M_readCoast_232 : decode c_M_readCoast 232 = .ok (.goto 4, 3) := by decide +kernel
theorem dd_M_readCoast_235 : decode c_M_readCoast 235 = .ok (.iconst 0, 1) := by decide +kernel
theorem dd_M_readCoast_236 : decode c_M_readCoast 236 = .ok (.istore_n 2, 1) := by decide +kernel
theorem dd_M_readCoast_237 : decode c_M_readCoast 237 = .ok (.aload_n 0, 1) := by decide +kernel
theorem dd_M_readCoast_238 : decode c_M_readCoast 238 = .ok (.dup, 1) := by decide +kernel
theorem dd_M_readCoast_239 : decode c_M_readCoast 239 = .ok (.getfield 100, 3) := by decide +kernel
theorem dd_M_readCoast_242 : decode c_M_readCoast 242 = .ok (.iload_n 2, 1) := by decide +kernel
theorem dd_M_readCoast_243 : decode c_M_readCoast 243 = .ok (.ifCond .eq 7, 3) := by decide +kernel
theorem dd_M_readCoast_246 : decode c_M_readCoast 246 = .ok (.iconst 1, 1) := by decide +kernel
theorem dd_M_readCoast_247 : decode c_M_readCoast 247 = .ok (.goto 4, 3) := by decide +kernel
theorem dd_M_readCoast_250 : decode c_M_readCoast 250 = .ok (.iconst 0, 1) := by decide +kernel
theorem dd_M_readCoast_251 : decode c_M_readCoast 251 = .ok (.iadd, 1) := by decide +kernel
theorem dd_M_readCoast_252 : decode c_M_readCoast 252 = .ok (.putfield 100, 3) := by decide +kernel
theorem dd_M_readCoast_255 : decode c_M_readCoast 255 = .ok (.goto (-206), 3) := by decide +kernel
theorem dd_M_readCoast_258 : decode c_M_readCoast 258 = .ok (.aload_n 0, 1) := by decide +kernel
theorem dd_M_readCoast_259 : decode c_M_readCoast 259 = .ok (.getfield 107, 3) := by decide +kernel
theorem dd_M_readCoast_262 : decode c_M_readCoast 262 = .ok (.iconst (-1), 1) := by decide +kernel
theorem dd_M_readCoast_263 : decode c_M_readCoast 263 = .ok (.if_icmp .ne 43, 3) := by decide +kernel
theorem dd_M_readCoast_266 : decode c_M_readCoast 266 = .ok (.aload_n 0, 1) := by decide +kernel
theorem dd_M_readCoast_267 : decode c_M_readCoast 267 = .ok (.invokevirtual 119, 3) := by decide +kernel
theorem dd_M_readCoast_270 : decode c_M_readCoast 270 = .ok (.iconst (-1), 1) := by decide +kernel
theorem dd_M_readCoast_271 : decode c_M_readCoast 271 = .ok (.if_icmp .ne 31, 3) := by decide +kernel
theorem dd_M_readCoast_274 : decode c_M_readCoast 274 = .ok (.aload_n 0, 1) := by decide +kernel
theorem dd_M_readCoast_275 : decode c_M_readCoast 275 = .ok (.getfield 226, 3) := by decide +kernel
theorem dd_M_readCoast_278 : decode c_M_readCoast 278 = .ok (.iconst 2, 1) := by decide +kernel
theorem dd_M_readCoast_279 : decode c_M_readCoast 279 = .ok (.if_icmp .lt 23, 3) := by decide +kernel
theorem dd_M_readCoast_282 : decode c_M_readCoast 282 = .ok (.aload_n 0, 1) := by decide +kernel
theorem dd_M_readCoast_283 : decode c_M_readCoast 283 = .ok (.getfield 229, 3) := by decide +kernel
theorem dd_M_readCoast_286 : decode c_M_readCoast 286 = .ok (.ifCond .eq 16, 3) := by decide +kernel
theorem dd_M_readCoast_289 : decode c_M_readCoast 289 = .ok (.aload_n 0, 1) := by decide +kernel
theorem dd_M_readCoast_290 : decode c_M_readCoast 290 = .ok (.getfield 40, 3) := by decide +kernel
theorem dd_M_readCoast_293 : decode c_M_readCoast 293 = .ok (.iconst 2, 1) := by decide +kernel
theorem dd_M_readCoast_294 : decode c_M_readCoast 294 = .ok (.iaload, 1) := by decide +kernel
theorem dd_M_readCoast_295 : decode c_M_readCoast 295 = .ok (.aload_n 0, 1) := by decide +kernel
theorem dd_M_readCoast_296 : decode c_M_readCoast 296 = .ok (.getfield 226, 3) := by decide +kernel
theorem dd_M_readCoast_299 : decode c_M_readCoast 299 = .ok (.if_icmp .lt 7, 3) := by decide +kernel
theorem dd_M_readCoast_302 : decode c_M_readCoast 302 = .ok (.aload_n 0, 1) := by decide +kernel
theorem dd_M_readCoast_303 : decode c_M_readCoast 303 = .ok (.invokevirtual 116, 3) := by decide +kernel
theorem dd_M_readCoast_306 : decode c_M_readCoast 306 = .ok (.aload_n 0, 1) := by decide +kernel
theorem dd_M_readCoast_307 : decode c_M_readCoast 307 = .ok (.getfield 107, 3) := by decide +kernel
theorem dd_M_readCoast_310 : decode c_M_readCoast 310 = .ok (.ireturn, 1) := by decide +kernel
theorem dd_M_fault_0 : decode c_M_fault 0 = .ok (.iload_n 1, 1) := by decide +kernel
theorem dd_M_fault_1 : decode c_M_fault 1 = .ok (.ifCond .ne 10, 3) := by decide +kernel
theorem dd_M_fault_4 : decode c_M_fault 4 = .ok (.aload_n 0, 1) := by decide +kernel
theorem dd_M_fault_5 : decode c_M_fault 5 = .ok (.invokevirtual 236, 3) := by decide +kernel
theorem dd_M_fault_8 : decode c_M_fault 8 = .ok (.goto 18, 3) := by decide +kernel
theorem dd_M_fault_11 : decode c_M_fault 11 = .ok (.iload_n 1, 1) := by decide +kernel
theorem dd_M_fault_12 : decode c_M_fault 12 = .ok (.iconst 1, 1) := by decide +kernel
theorem dd_M_fault_13 : decode c_M_fault 13 = .ok (.if_icmp .ne 11, 3) := by decide +kernel
theorem dd_M_fault_16 : decode c_M_fault 16 = .ok (.aload_n 0, 1) := by decide +kernel
theorem dd_M_fault_17 : decode c_M_fault 17 = .ok (.iconst 4, 1) := by decide +kernel
theorem dd_M_fault_18 : decode c_M_fault 18 = .ok (.invokevirtual 239, 3) := by decide +kernel
theorem dd_M_fault_21 : decode c_M_fault 21 = .ok (.goto 5, 3) := by decide +kernel
theorem dd_M_fault_24 : decode c_M_fault 24 = .ok (.bipush (-2), 2) := by decide +kernel
theorem dd_M_fault_26 : decode c_M_fault 26 = .ok (.ireturn, 1) := by decide +kernel
theorem dd_Coast_become_0 : decode c_Coast_become 0 = .ok (.aload_n 0, 1) := by decide +kernel
theorem dd_Coast_become_1 : decode c_Coast_become 1 = .ok (.aload_n 1, 1) := by decide +kernel
theorem dd_Coast_become_2 : decode c_Coast_become 2 = .ok (.getfield 30, 3) := by decide +kernel
theorem dd_Coast_become_5 : decode c_Coast_become 5 = .ok (.putfield 30, 3) := by decide +kernel
theorem dd_Coast_become_8 : decode c_Coast_become 8 = .ok (.aload_n 0, 1) := by decide +kernel
theorem dd_Coast_become_9 : decode c_Coast_become 9 = .ok (.aload_n 1, 1) := by decide +kernel
theorem dd_Coast_become_10 : decode c_Coast_become 10 = .ok (.getfield 34, 3) := by decide +kernel
theorem dd_Coast_become_13 : decode c_Coast_become 13 = .ok (.putfield 34, 3) := by decide +kernel
theorem dd_Coast_become_16 : decode c_Coast_become 16 = .ok (.aload_n 0, 1) := by decide +kernel
theorem dd_Coast_become_17 : decode c_Coast_become 17 = .ok (.aload_n 1, 1) := by decide +kernel
theorem dd_Coast_become_18 : decode c_Coast_become 18 = .ok (.getfield 44, 3) := by decide +kernel
theorem dd_Coast_become_21 : decode c_Coast_become 21 = .ok (.putfield 44, 3) := by decide +kernel
theorem dd_Coast_become_24 : decode c_Coast_become 24 = .ok (.aload_n 0, 1) := by decide +kernel
theorem dd_Coast_become_25 : decode c_Coast_become 25 = .ok (.aload_n 1, 1) := by decide +kernel
theorem dd_Coast_become_26 : decode c_Coast_become 26 = .ok (.getfield 47, 3) := by decide +kernel
theorem dd_Coast_become_29 : decode c_Coast_become 29 = .ok (.putfield 47, 3) := by decide +kernel
theorem dd_Coast_become_32 : decode c_Coast_become 32 = .ok (.aload_n 0, 1) := by decide +kernel
theorem dd_Coast_become_33 : decode c_Coast_become 33 = .ok (.aload_n 1, 1) := by decide +kernel
theorem dd_Coast_become_34 : decode c_Coast_become 34 = .ok (.getfield 50, 3) := by decide +kernel
theorem dd_Coast_become_37 : decode c_Coast_become 37 = .ok (.putfield 50, 3) := by decide +kernel
theorem dd_Coast_become_40 : decode c_Coast_become 40 = .ok (.aload_n 0, 1) := by decide +kernel
theorem dd_Coast_become_41 : decode c_Coast_become 41 = .ok (.aload_n 1, 1) := by decide +kernel
theorem dd_Coast_become_42 : decode c_Coast_become 42 = .ok (.getfield 53, 3) := by decide +kernel
theorem dd_Coast_become_45 : decode c_Coast_become 45 = .ok (.putfield 53, 3) := by decide +kernel
theorem dd_Coast_become_48 : decode c_Coast_become 48 = .ok (.aload_n 1, 1) := by decide +kernel
theorem dd_Coast_become_49 : decode c_Coast_become 49 = .ok (.getfield 9, 3) := by decide +kernel
theorem dd_Coast_become_52 : decode c_Coast_become 52 = .ok (.iconst 0, 1) := by decide +kernel
theorem dd_Coast_become_53 : decode c_Coast_become 53 = .ok (.aload_n 0, 1) := by decide +kernel
theorem dd_Coast_become_54 : decode c_Coast_become 54 = .ok (.getfield 9, 3) := by decide +kernel
theorem dd_Coast_become_57 : decode c_Coast_become 57 = .ok (.iconst 0, 1) := by decide +kernel
theorem dd_Coast_become_58 : decode c_Coast_become 58 = .ok (.bipush 6, 2) := by decide +kernel
theorem dd_Coast_become_60 : decode c_Coast_become 60 = .ok (.invokestatic 56, 3) := by decide +kernel
theorem dd_Coast_become_63 : decode c_Coast_become 63 = .ok (.aload_n 1, 1) := by decide +kernel
theorem dd_Coast_become_64 : decode c_Coast_become 64 = .ok (.getfield 15, 3) := by decide +kernel
theorem dd_Coast_become_67 : decode c_Coast_become 67 = .ok (.iconst 0, 1) := by decide +kernel
theorem dd_Coast_become_68 : decode c_Coast_become 68 = .ok (.aload_n 0, 1) := by decide +kernel
theorem dd_Coast_become_69 : decode c_Coast_become 69 = .ok (.getfield 15, 3) := by decide +kernel
theorem dd_Coast_become_72 : decode c_Coast_become 72 = .ok (.iconst 0, 1) := by decide +kernel
theorem dd_Coast_become_73 : decode c_Coast_become 73 = .ok (.bipush 6, 2) := by decide +kernel
theorem dd_Coast_become_75 : decode c_Coast_become 75 = .ok (.invokestatic 56, 3) := by decide +kernel
theorem dd_Coast_become_78 : decode c_Coast_become 78 = .ok (.aload_n 1, 1) := by decide +kernel
theorem dd_Coast_become_79 : decode c_Coast_become 79 = .ok (.getfield 18, 3) := by decide +kernel
theorem dd_Coast_become_82 : decode c_Coast_become 82 = .ok (.iconst 0, 1) := by decide +kernel
theorem dd_Coast_become_83 : decode c_Coast_become 83 = .ok (.aload_n 0, 1) := by decide +kernel
theorem dd_Coast_become_84 : decode c_Coast_become 84 = .ok (.getfield 18, 3) := by decide +kernel
theorem dd_Coast_become_87 : decode c_Coast_become 87 = .ok (.iconst 0, 1) := by decide +kernel
theorem dd_Coast_become_88 : decode c_Coast_become 88 = .ok (.bipush 6, 2) := by decide +kernel
theorem dd_Coast_become_90 : decode c_Coast_become 90 = .ok (.invokestatic 56, 3) := by decide +kernel
theorem dd_Coast_become_93 : decode c_Coast_become 93 = .ok (.aload_n 1, 1) := by decide +kernel
theorem dd_Coast_become_94 : decode c_Coast_become 94 = .ok (.getfield 21, 3) := by decide +kernel
theorem dd_Coast_become_97 : decode c_Coast_become 97 = .ok (.iconst 0, 1) := by decide +kernel
theorem dd_Coast_become_98 : decode c_Coast_become 98 = .ok (.aload_n 0, 1) := by decide +kernel
theorem dd_Coast_become_99 : decode c_Coast_become 99 = .ok (.getfield 21, 3) := by decide +kernel
theorem dd_Coast_become_102 : decode c_Coast_become 102 = .ok (.iconst 0, 1) := by decide +kernel
theorem dd_Coast_become_103 : decode c_Coast_become 103 = .ok (.bipush 6, 2) := by decide +kernel
theorem dd_Coast_become_105 : decode c_Coast_become 105 = .ok (.invokestatic 56, 3) := by decide +kernel
theorem dd_Coast_become_108 : decode c_Coast_become 108 = .ok (.aload_n 1, 1) := by decide +kernel
theorem dd_Coast_become_109 : decode c_Coast_become 109 = .ok (.getfield 24, 3) := by decide +kernel
theorem dd_Coast_become_112 : decode c_Coast_become 112 = .ok (.iconst 0, 1) := by decide +kernel
theorem dd_Coast_become_113 : decode c_Coast_become 113 = .ok (.aload_n 0, 1) := by decide +kernel
theorem dd_Coast_become_114 : decode c_Coast_become 114 = .ok (.getfield 24, 3) := by decide +kernel
theorem dd_Coast_become_117 : decode c_Coast_become 117 = .ok (.iconst 0, 1) := by decide +kernel
theorem dd_Coast_become_118 : decode c_Coast_become 118 = .ok (.bipush 6, 2) := by decide +kernel
theorem dd_Coast_become_120 : decode c_Coast_become 120 = .ok (.invokestatic 56, 3) := by decide +kernel
theorem dd_Coast_become_123 : decode c_Coast_become 123 = .ok (.aload_n 1, 1) := by decide +kernel
theorem dd_Coast_become_124 : decode c_Coast_become 124 = .ok (.getfield 27, 3) := by decide +kernel
theorem dd_Coast_become_127 : decode c_Coast_become 127 = .ok (.iconst 0, 1) := by decide +kernel
theorem dd_Coast_become_128 : decode c_Coast_become 128 = .ok (.aload_n 0, 1) := by decide +kernel
theorem dd_Coast_become_129 : decode c_Coast_become 129 = .ok (.getfield 27, 3) := by decide +kernel
theorem dd_Coast_become_132 : decode c_Coast_become 132 = .ok (.iconst 0, 1) := by decide +kernel
theorem dd_Coast_become_133 : decode c_Coast_become 133 = .ok (.bipush 6, 2) := by decide +kernel
theorem dd_Coast_become_135 : decode c_Coast_become 135 = .ok (.invokestatic 56, 3) := by decide +kernel
theorem dd_Coast_become_138 : decode c_Coast_become 138 = .ok (.return_, 1) := by decide +kernel
theorem dd_Coast_allTales_0 : decode c_Coast_allTales 0 = .ok (.iconst 1, 1) := by decide +kernel
theorem dd_Coast_allTales_1 : decode c_Coast_allTales 1 = .ok (.aload_n 0, 1) := by decide +kernel
theorem dd_Coast_allTales_2 : decode c_Coast_allTales 2 = .ok (.getfield 34, 3) := by decide +kernel
theorem dd_Coast_allTales_5 : decode c_Coast_allTales 5 = .ok (.ishl, 1) := by decide +kernel
theorem dd_Coast_allTales_6 : decode c_Coast_allTales 6 = .ok (.iconst 1, 1) := by decide +kernel
theorem dd_Coast_allTales_7 : decode c_Coast_allTales 7 = .ok (.isub, 1) := by decide +kernel
theorem dd_Coast_allTales_8 : decode c_Coast_allTales 8 = .ok (.ireturn, 1) := by decide +kernel
theorem dd_Arrays_fill_0 : decode c_Arrays_fill 0 = .ok (.iconst 0, 1) := by decide +kernel
theorem dd_Arrays_fill_1 : decode c_Arrays_fill 1 = .ok (.istore_n 2, 1) := by decide +kernel
theorem dd_Arrays_fill_2 : decode c_Arrays_fill 2 = .ok (.aload_n 0, 1) := by decide +kernel
theorem dd_Arrays_fill_3 : decode c_Arrays_fill 3 = .ok (.arraylength, 1) := by decide +kernel
theorem dd_Arrays_fill_4 : decode c_Arrays_fill 4 = .ok (.istore_n 3, 1) := by decide +kernel
theorem dd_Arrays_fill_5 : decode c_Arrays_fill 5 = .ok (.iload_n 2, 1) := by decide +kernel
theorem dd_Arrays_fill_6 : decode c_Arrays_fill 6 = .ok (.iload_n 3, 1) := by decide +kernel
theorem dd_Arrays_fill_7 : decode c_Arrays_fill 7 = .ok (.if_icmp .ge 13, 3) := by decide +kernel
theorem dd_Arrays_fill_10 : decode c_Arrays_fill 10 = .ok (.aload_n 0, 1) := by decide +kernel
theorem dd_Arrays_fill_11 : decode c_Arrays_fill 11 = .ok (.iload_n 2, 1) := by decide +kernel
theorem dd_Arrays_fill_12 : decode c_Arrays_fill 12 = .ok (.iload_n 1, 1) := by decide +kernel
theorem dd_Arrays_fill_13 : decode c_Arrays_fill 13 = .ok (.iastore, 1) := by decide +kernel
theorem dd_Arrays_fill_14 : decode c_Arrays_fill 14 = .ok (.iinc 2 1, 3) := by decide +kernel
theorem dd_Arrays_fill_17 : decode c_Arrays_fill 17 = .ok (.goto (-12), 3) := by decide +kernel
theorem dd_Arrays_fill_20 : decode c_Arrays_fill 20 = .ok (.return_, 1) := by decide +kernel
theorem dd_Coast_knows_0 : decode c_Coast_knows 0 = .ok (.aload_n 0, 1) := by decide +kernel
theorem dd_Coast_knows_1 : decode c_Coast_knows 1 = .ok (.getfield 9, 3) := by decide +kernel
theorem dd_Coast_knows_4 : decode c_Coast_knows 4 = .ok (.iload_n 1, 1) := by decide +kernel
theorem dd_Coast_knows_5 : decode c_Coast_knows 5 = .ok (.iaload, 1) := by decide +kernel
theorem dd_Coast_knows_6 : decode c_Coast_knows 6 = .ok (.iload_n 2, 1) := by decide +kernel
theorem dd_Coast_knows_7 : decode c_Coast_knows 7 = .ok (.ishr, 1) := by decide +kernel
theorem dd_Coast_knows_8 : decode c_Coast_knows 8 = .ok (.iconst 1, 1) := by decide +kernel
theorem dd_Coast_knows_9 : decode c_Coast_knows 9 = .ok (.iand, 1) := by decide +kernel
theorem dd_Coast_knows_10 : decode c_Coast_knows 10 = .ok (.ifCond .eq 7, 3) := by decide +kernel
theorem dd_Coast_knows_13 : decode c_Coast_knows 13 = .ok (.iconst 1, 1) := by decide +kernel
theorem dd_Coast_knows_14 : decode c_Coast_knows 14 = .ok (.goto 4, 3) := by decide +kernel
theorem dd_Coast_knows_17 : decode c_Coast_knows 17 = .ok (.iconst 0, 1) := by decide +kernel
theorem dd_Coast_knows_18 : decode c_Coast_knows 18 = .ok (.ireturn, 1) := by decide +kernel
theorem dd_Stand_begin_0 : decode c_Stand_begin 0 = .ok (.aload_n 0, 1) := by decide +kernel
theorem dd_Stand_begin_1 : decode c_Stand_begin 1 = .ok (.aload_n 1, 1) := by decide +kernel
theorem dd_Stand_begin_2 : decode c_Stand_begin 2 = .ok (.getfield 23, 3) := by decide +kernel
theorem dd_Stand_begin_5 : decode c_Stand_begin 5 = .ok (.putfield 29, 3) := by decide +kernel
theorem dd_Stand_begin_8 : decode c_Stand_begin 8 = .ok (.aload_n 0, 1) := by decide +kernel
theorem dd_Stand_begin_9 : decode c_Stand_begin 9 = .ok (.aload_n 1, 1) := by decide +kernel
theorem dd_Stand_begin_10 : decode c_Stand_begin 10 = .ok (.getfield 30, 3) := by decide +kernel
theorem dd_Stand_begin_13 : decode c_Stand_begin 13 = .ok (.aload_n 1, 1) := by decide +kernel
theorem dd_Stand_begin_14 : decode c_Stand_begin 14 = .ok (.invokevirtual 33, 3) := by decide +kernel
theorem dd_Stand_begin_17 : decode c_Stand_begin 17 = .ok (.iand, 1) := by decide +kernel
theorem dd_Stand_begin_18 : decode c_Stand_begin 18 = .ok (.putfield 37, 3) := by decide +kernel
theorem dd_Stand_begin_21 : decode c_Stand_begin 21 = .ok (.aload_n 0, 1) := by decide +kernel
theorem dd_Stand_begin_22 : decode c_Stand_begin 22 = .ok (.aload_n 1, 1) := by decide +kernel
theorem dd_Stand_begin_23 : decode c_Stand_begin 23 = .ok (.getfield 38, 3) := by decide +kernel
theorem dd_Stand_begin_26 : decode c_Stand_begin 26 = .ok (.putfield 41, 3) := by decide +kernel
theorem dd_Stand_begin_29 : decode c_Stand_begin 29 = .ok (.aload_n 0, 1) := by decide +kernel
theorem dd_Stand_begin_30 : decode c_Stand_begin 30 = .ok (.iconst 0, 1) := by decide +kernel
theorem dd_Stand_begin_31 : decode c_Stand_begin 31 = .ok (.putfield 42, 3) := by decide +kernel
theorem dd_Stand_begin_34 : decode c_Stand_begin 34 = .ok (.aload_n 0, 1) := by decide +kernel
theorem dd_Stand_begin_35 : decode c_Stand_begin 35 = .ok (.iconst 0, 1) := by decide +kernel
theorem dd_Stand_begin_36 : decode c_Stand_begin 36 = .ok (.putfield 45, 3) := by decide +kernel
theorem dd_Stand_begin_39 : decode c_Stand_begin 39 = .ok (.aload_n 0, 1) := by decide +kernel
theorem dd_Stand_begin_40 : decode c_Stand_begin 40 = .ok (.iconst 0, 1) := by decide +kernel
theorem dd_Stand_begin_41 : decode c_Stand_begin 41 = .ok (.putfield 48, 3) := by decide +kernel
theorem dd_Stand_begin_44 : decode c_Stand_begin 44 = .ok (.aload_n 0, 1) := by decide +kernel
theorem dd_Stand_begin_45 : decode c_Stand_begin 45 = .ok (.iconst 0, 1) := by decide +kernel
theorem dd_Stand_begin_46 : decode c_Stand_begin 46 = .ok (.putfield 51, 3) := by decide +kernel
theorem dd_Stand_begin_49 : decode c_Stand_begin 49 = .ok (.aload_n 1, 1) := by decide +kernel
theorem dd_Stand_begin_50 : decode c_Stand_begin 50 = .ok (.getfield 54, 3) := by decide +kernel
theorem dd_Stand_begin_53 : decode c_Stand_begin 53 = .ok (.iconst 0, 1) := by decide +kernel
theorem dd_Stand_begin_54 : decode c_Stand_begin 54 = .ok (.aload_n 0, 1) := by decide +kernel
theorem dd_Stand_begin_55 : decode c_Stand_begin 55 = .ok (.getfield 13, 3) := by decide +kernel
theorem dd_Stand_begin_58 : decode c_Stand_begin 58 = .ok (.iconst 0, 1) := by decide +kernel
theorem dd_Stand_begin_59 : decode c_Stand_begin 59 = .ok (.bipush 6, 2) := by decide +kernel
theorem dd_Stand_begin_61 : decode c_Stand_begin 61 = .ok (.invokestatic 55, 3) := by decide +kernel
theorem dd_Stand_begin_64 : decode c_Stand_begin 64 = .ok (.aload_n 0, 1) := by decide +kernel
theorem dd_Stand_begin_65 : decode c_Stand_begin 65 = .ok (.getfield 17, 3) := by decide +kernel
theorem dd_Stand_begin_68 : decode c_Stand_begin 68 = .ok (.iconst 0, 1) := by decide +kernel
theorem dd_Stand_begin_69 : decode c_Stand_begin 69 = .ok (.invokestatic 61, 3) := by decide +kernel
theorem dd_Stand_begin_72 : decode c_Stand_begin 72 = .ok (.iconst 0, 1) := by decide +kernel
theorem dd_Stand_begin_73 : decode c_Stand_begin 73 = .ok (.istore_n 2, 1) := by decide +kernel
theorem dd_Stand_begin_74 : decode c_Stand_begin 74 = .ok (.iload_n 2, 1) := by decide +kernel
theorem dd_Stand_begin_75 : decode c_Stand_begin 75 = .ok (.aload_n 1, 1) := by decide +kernel
theorem dd_Stand_begin_76 : decode c_Stand_begin 76 = .ok (.getfield 67, 3) := by decide +kernel
theorem dd_Stand_begin_79 : decode c_Stand_begin 79 = .ok (.if_icmp .ge 50, 3) := by decide +kernel
theorem dd_Stand_begin_82 : decode c_Stand_begin 82 = .ok (.iconst 0, 1) := by decide +kernel
theorem dd_Stand_begin_83 : decode c_Stand_begin 83 = .ok (.istore_n 3, 1) := by decide +kernel
theorem dd_Stand_begin_84 : decode c_Stand_begin 84 = .ok (.iload_n 3, 1) := by decide +kernel
theorem dd_Stand_begin_85 : decode c_Stand_begin 85 = .ok (.aload_n 1, 1) := by decide +kernel
theorem dd_Stand_begin_86 : decode c_Stand_begin 86 = .ok (.getfield 70, 3) := by decide +kernel
theorem dd_Stand_begin_89 : decode c_Stand_begin 89 = .ok (.if_icmp .ge 34, 3) := by decide +kernel
theorem dd_Stand_begin_92 : decode c_Stand_begin 92 = .ok (.aload_n 0, 1) := by decide +kernel
theorem dd_Stand_begin_93 : decode c_Stand_begin 93 = .ok (.getfield 17, 3) := by decide +kernel
theorem dd_Stand_begin_96 : decode c_Stand_begin 96 = .ok (.iload_n 2, 1) := by decide +kernel
theorem dd_Stand_begin_97 : decode c_Stand_begin 97 = .ok (.bipush 6, 2) := by decide +kernel
theorem dd_Stand_begin_99 : decode c_Stand_begin 99 = .ok (.imul, 1) := by decide +kernel
theorem dd_Stand_begin_100 : decode c_Stand_begin 100 = .ok (.iload_n 3, 1) := by decide +kernel
theorem dd_Stand_begin_101 : decode c_Stand_begin 101 = .ok (.iadd, 1) := by decide +kernel
theorem dd_Stand_begin_102 : decode c_Stand_begin 102 = .ok (.aload_n 1, 1) := by decide +kernel
theorem dd_Stand_begin_103 : decode c_Stand_begin 103 = .ok (.iload_n 2, 1) := by decide +kernel
theorem dd_Stand_begin_104 : decode c_Stand_begin 104 = .ok (.iload_n 3, 1) := by decide +kernel
theorem dd_Stand_begin_105 : decode c_Stand_begin 105 = .ok (.invokevirtual 73, 3) := by decide +kernel
theorem dd_Stand_begin_108 : decode c_Stand_begin 108 = .ok (.ifCond .eq 7, 3) := by decide +kernel
theorem dd_Stand_begin_111 : decode c_Stand_begin 111 = .ok (.iconst 1, 1) := by decide +kernel
theorem dd_Stand_begin_112 : decode c_Stand_begin 112 = .ok (.goto 4, 3) := by decide +kernel
theorem dd_Stand_begin_115 : decode c_Stand_begin 115 = .ok (.iconst 0, 1) := by decide +kernel
theorem dd_Stand_begin_116 : decode c_Stand_begin 116 = .ok (.iastore, 1) := by decide +kernel
theorem dd_Stand_begin_117 : decode c_Stand_begin 117 = .ok (.iinc 3 1, 3) := by decide +kernel
theorem dd_Stand_begin_120 : decode c_Stand_begin 120 = .ok (.goto (-36), 3) := by decide +kernel
theorem dd_Stand_begin_123 : decode c_Stand_begin 123 = .ok (.iinc 2 1, 3) := by decide +kernel
theorem dd_Stand_begin_126 : decode c_Stand_begin 126 = .ok (.goto (-52), 3) := by decide +kernel
theorem dd_Stand_begin_129 : decode c_Stand_begin 129 = .ok (.return_, 1) := by decide +kernel
theorem dd_Past_forget_0 : decode c_Past_forget 0 = .ok (.aload_n 0, 1) := by decide +kernel
theorem dd_Past_forget_1 : decode c_Past_forget 1 = .ok (.iconst 0, 1) := by decide +kernel
theorem dd_Past_forget_2 : decode c_Past_forget 2 = .ok (.putfield 21, 3) := by decide +kernel
theorem dd_Past_forget_5 : decode c_Past_forget 5 = .ok (.aload_n 0, 1) := by decide +kernel
theorem dd_Past_forget_6 : decode c_Past_forget 6 = .ok (.iconst 0, 1) := by decide +kernel
theorem dd_Past_forget_7 : decode c_Past_forget 7 = .ok (.putfield 25, 3) := by decide +kernel
theorem dd_Past_forget_10 : decode c_Past_forget 10 = .ok (.return_, 1) := by decide +kernel
theorem dd_W_takeCoast_0 : decode c_W_takeCoast 0 = .ok (.aload_n 0, 1) := by decide +kernel
theorem dd_W_takeCoast_1 : decode c_W_takeCoast 1 = .ok (.getfield 12, 3) := by decide +kernel
theorem dd_W_takeCoast_4 : decode c_W_takeCoast 4 = .ok (.iconst 0, 1) := by decide +kernel
theorem dd_W_takeCoast_5 : decode c_W_takeCoast 5 = .ok (.putfield 106, 3) := by decide +kernel
theorem dd_W_takeCoast_8 : decode c_W_takeCoast 8 = .ok (.aload_n 0, 1) := by decide +kernel
theorem dd_W_takeCoast_9 : decode c_W_takeCoast 9 = .ok (.getfield 42, 3) := by decide +kernel
theorem dd_W_takeCoast_12 : decode c_W_takeCoast 12 = .ok (.aload_n 0, 1) := by decide +kernel
theorem dd_W_takeCoast_13 : decode c_W_takeCoast 13 = .ok (.getfield 21, 3) := by decide +kernel
theorem dd_W_takeCoast_16 : decode c_W_takeCoast 16 = .ok (.getfield 134, 3) := by decide +kernel
theorem dd_W_takeCoast_19 : decode c_W_takeCoast 19 = .ok (.invokevirtual 137, 3) := by decide +kernel
theorem dd_W_takeCoast_22 : decode c_W_takeCoast 22 = .ok (.aload_n 0, 1) := by decide +kernel
theorem dd_W_takeCoast_23 : decode c_W_takeCoast 23 = .ok (.getfield 49, 3) := by decide +kernel
theorem dd_W_takeCoast_26 : decode c_W_takeCoast 26 = .ok (.aload_n 0, 1) := by decide +kernel
theorem dd_W_takeCoast_27 : decode c_W_takeCoast 27 = .ok (.getfield 42, 3) := by decide +kernel
theorem dd_W_takeCoast_30 : decode c_W_takeCoast 30 = .ok (.invokevirtual 141, 3) := by decide +kernel
theorem dd_W_takeCoast_33 : decode c_W_takeCoast 33 = .ok (.aload_n 0, 1) := by decide +kernel
theorem dd_W_takeCoast_34 : decode c_W_takeCoast 34 = .ok (.getfield 56, 3) := by decide +kernel
theorem dd_W_takeCoast_37 : decode c_W_takeCoast 37 = .ok (.invokevirtual 144, 3) := by decide +kernel
theorem dd_W_takeCoast_40 : decode c_W_takeCoast 40 = .ok (.aload_n 0, 1) := by decide +kernel
theorem dd_W_takeCoast_41 : decode c_W_takeCoast 41 = .ok (.getfield 74, 3) := by decide +kernel
theorem dd_W_takeCoast_44 : decode c_W_takeCoast 44 = .ok (.iconst 0, 1) := by decide +kernel
theorem dd_W_takeCoast_45 : decode c_W_takeCoast 45 = .ok (.putfield 147, 3) := by decide +kernel
theorem dd_W_takeCoast_48 : decode c_W_takeCoast 48 = .ok (.return_, 1) := by decide +kernel
theorem dd_Laws_add_0 : decode c_Laws_add 0 = .ok (.aload_n 0, 1) := by decide +kernel
theorem dd_Laws_add_1 : decode c_Laws_add 1 = .ok (.getfield 30, 3) := by decide +kernel
theorem dd_Laws_add_4 : decode c_Laws_add 4 = .ok (.iconst 4, 1) := by decide +kernel
theorem dd_Laws_add_5 : decode c_Laws_add 5 = .ok (.if_icmp .ge 54, 3) := by decide +kernel
theorem dd_Laws_add_8 : decode c_Laws_add 8 = .ok (.iload_n 2, 1) := by decide +kernel
theorem dd_Laws_add_9 : decode c_Laws_add 9 = .ok (.sipush 240, 3) := by decide +kernel
theorem dd_Laws_add_12 : decode c_Laws_add 12 = .ok (.if_icmp .gt 47, 3) := by decide +kernel
theorem dd_Laws_add_15 : decode c_Laws_add 15 = .ok (.iload_n 2, 1) := by decide +kernel
theorem dd_Laws_add_16 : decode c_Laws_add 16 = .ok (.aload_n 1, 1) := by decide +kernel
theorem dd_Laws_add_17 : decode c_Laws_add 17 = .ok (.arraylength, 1) := by decide +kernel
theorem dd_Laws_add_18 : decode c_Laws_add 18 = .ok (.if_icmp .gt 41, 3) := by decide +kernel
theorem dd_Laws_add_21 : decode c_Laws_add 21 = .ok (.aload_n 1, 1) := by decide +kernel
theorem dd_Laws_add_22 : decode c_Laws_add 22 = .ok (.iconst 0, 1) := by decide +kernel
theorem dd_Laws_add_23 : decode c_Laws_add 23 = .ok (.aload_n 0, 1) := by decide +kernel
theorem dd_Laws_add_24 : decode c_Laws_add 24 = .ok (.getfield 21, 3) := by decide +kernel
theorem dd_Laws_add_27 : decode c_Laws_add 27 = .ok (.aload_n 0, 1) := by decide +kernel
theorem dd_Laws_add_28 : decode c_Laws_add 28 = .ok (.getfield 30, 3) := by decide +kernel
theorem dd_Laws_add_31 : decode c_Laws_add 31 = .ok (.sipush 240, 3) := by decide +kernel
theorem dd_Laws_add_34 : decode c_Laws_add 34 = .ok (.imul, 1) := by decide +kernel
theorem dd_Laws_add_35 : decode c_Laws_add 35 = .ok (.iload_n 2, 1) := by decide +kernel
theorem dd_Laws_add_36 : decode c_Laws_add 36 = .ok (.invokestatic 33, 3) := by decide +kernel
theorem dd_Laws_add_39 : decode c_Laws_add 39 = .ok (.aload_n 0, 1) := by decide +kernel
theorem dd_Laws_add_40 : decode c_Laws_add 40 = .ok (.getfield 24, 3) := by decide +kernel
theorem dd_Laws_add_43 : decode c_Laws_add 43 = .ok (.aload_n 0, 1) := by decide +kernel
theorem dd_Laws_add_44 : decode c_Laws_add 44 = .ok (.getfield 30, 3) := by decide +kernel
theorem dd_Laws_add_47 : decode c_Laws_add 47 = .ok (.iload_n 2, 1) := by decide +kernel
theorem dd_Laws_add_48 : decode c_Laws_add 48 = .ok (.iastore, 1) := by decide +kernel
theorem dd_Laws_add_49 : decode c_Laws_add 49 = .ok (.aload_n 0, 1) := by decide +kernel
theorem dd_Laws_add_50 : decode c_Laws_add 50 = .ok (.dup, 1) := by decide +kernel
theorem dd_Laws_add_51 : decode c_Laws_add 51 = .ok (.getfield 30, 3) := by decide +kernel
theorem dd_Laws_add_54 : decode c_Laws_add 54 = .ok (.iconst 1, 1) := by decide +kernel
theorem dd_Laws_add_55 : decode c_Laws_add 55 = .ok (.iadd, 1) := by decide +kernel
theorem dd_Laws_add_56 : decode c_Laws_add 56 = .ok (.putfield 30, 3) := by decide +kernel
theorem dd_Laws_add_59 : decode c_Laws_add 59 = .ok (.return_, 1) := by decide +kernel
theorem dd_W_text_0 : decode c_W_text 0 = .ok (.iload_n 1, 1) := by decide +kernel
theorem dd_W_text_1 : decode c_W_text 1 = .ok (.ifCond .ne 26, 3) := by decide +kernel
theorem dd_W_text_4 : decode c_W_text 4 = .ok (.aload_n 0, 1) := by decide +kernel
theorem dd_W_text_5 : decode c_W_text 5 = .ok (.getfield 21, 3) := by decide +kernel
theorem dd_W_text_8 : decode c_W_text 8 = .ok (.invokevirtual 113, 3) := by decide +kernel
theorem dd_W_text_11 : decode c_W_text 11 = .ok (.iconst (-1), 1) := by decide +kernel
theorem dd_W_text_12 : decode c_W_text 12 = .ok (.if_icmp .ne 15, 3) := by decide +kernel
theorem dd_W_text_15 : decode c_W_text 15 = .ok (.aload_n 0, 1) := by decide +kernel
theorem dd_W_text_16 : decode c_W_text 16 = .ok (.invokevirtual 118, 3) := by decide +kernel
theorem dd_W_text_19 : decode c_W_text 19 = .ok (.aload_n 0, 1) := by decide +kernel
theorem dd_W_text_20 : decode c_W_text 20 = .ok (.getfield 42, 3) := by decide +kernel
theorem dd_W_text_23 : decode c_W_text 23 = .ok (.getfield 121, 3) := by decide +kernel
theorem dd_W_text_26 : decode c_W_text 26 = .ok (.ireturn, 1) := by decide +kernel
theorem dd_W_text_27 : decode c_W_text 27 = .ok (.iload_n 1, 1) := by decide +kernel
theorem dd_W_text_28 : decode c_W_text 28 = .ok (.iconst 1, 1) := by decide +kernel
theorem dd_W_text_29 : decode c_W_text 29 = .ok (.if_icmp .ne 64, 3) := by decide +kernel
theorem dd_W_text_32 : decode c_W_text 32 = .ok (.aload_n 0, 1) := by decide +kernel
theorem dd_W_text_33 : decode c_W_text 33 = .ok (.getfield 35, 3) := by decide +kernel
theorem dd_W_text_36 : decode c_W_text 36 = .ok (.getfield 124, 3) := by decide +kernel
theorem dd_W_text_39 : decode c_W_text 39 = .ok (.iconst 4, 1) := by decide +kernel
theorem dd_W_text_40 : decode c_W_text 40 = .ok (.if_icmp .ge 53, 3) := by decide +kernel
theorem dd_W_text_43 : decode c_W_text 43 = .ok (.aload_n 0, 1) := by decide +kernel
theorem dd_W_text_44 : decode c_W_text 44 = .ok (.getfield 28, 3) := by decide +kernel
theorem dd_W_text_47 : decode c_W_text 47 = .ok (.invokevirtual 117, 3) := by decide +kernel
theorem dd_W_text_50 : decode c_W_text 50 = .ok (.iconst (-1), 1) := by decide +kernel
theorem dd_W_text_51 : decode c_W_text 51 = .ok (.if_icmp .ne 42, 3) := by decide +kernel
theorem dd_W_text_54 : decode c_W_text 54 = .ok (.aload_n 0, 1) := by decide +kernel
theorem dd_W_text_55 : decode c_W_text 55 = .ok (.getfield 35, 3) := by decide +kernel
theorem dd_W_text_58 : decode c_W_text 58 = .ok (.aload_n 0, 1) := by decide +kernel
theorem dd_W_text_59 : decode c_W_text 59 = .ok (.getfield 28, 3) := by decide +kernel
theorem dd_W_text_62 : decode c_W_text 62 = .ok (.getfield 127, 3) := by decide +kernel
theorem dd_W_text_65 : decode c_W_text 65 = .ok (.aload_n 0, 1) := by decide +kernel
theorem dd_W_text_66 : decode c_W_text 66 = .ok (.getfield 28, 3) := by decide +kernel
theorem dd_W_text_69 : decode c_W_text 69 = .ok (.getfield 130, 3) := by decide +kernel
theorem dd_W_text_72 : decode c_W_text 72 = .ok (.invokevirtual 131, 3) := by decide +kernel
theorem dd_W_text_75 : decode c_W_text 75 = .ok (.aload_n 0, 1) := by decide +kernel
theorem dd_W_text_76 : decode c_W_text 76 = .ok (.getfield 12, 3) := by decide +kernel
theorem dd_W_text_79 : decode c_W_text 79 = .ok (.iconst 0, 1) := by decide +kernel
theorem dd_W_text_80 : decode c_W_text 80 = .ok (.putfield 106, 3) := by decide +kernel
theorem dd_W_text_83 : decode c_W_text 83 = .ok (.aload_n 0, 1) := by decide +kernel
theorem dd_W_text_84 : decode c_W_text 84 = .ok (.getfield 35, 3) := by decide +kernel
theorem dd_W_text_87 : decode c_W_text 87 = .ok (.getfield 124, 3) := by decide +kernel
theorem dd_W_text_90 : decode c_W_text 90 = .ok (.iconst 1, 1) := by decide +kernel
theorem dd_W_text_91 : decode c_W_text 91 = .ok (.isub, 1) := by decide +kernel
theorem dd_W_text_92 : decode c_W_text 92 = .ok (.ireturn, 1) := by decide +kernel
theorem dd_W_text_93 : decode c_W_text 93 = .ok (.iconst (-1), 1) := by decide +kernel
theorem dd_W_text_94 : decode c_W_text 94 = .ok (.ireturn, 1) := by decide +kernel
theorem dd_M_ofTale_0 : decode c_M_ofTale 0 = .ok (.aload_n 0, 1) := by decide +kernel
theorem dd_M_ofTale_1 : decode c_M_ofTale 1 = .ok (.getfield 55, 3) := by decide +kernel
theorem dd_M_ofTale_4 : decode c_M_ofTale 4 = .ok (.iconst 3, 1) := by decide +kernel
theorem dd_M_ofTale_5 : decode c_M_ofTale 5 = .ok (.iload_n 1, 1) := by decide +kernel
theorem dd_M_ofTale_6 : decode c_M_ofTale 6 = .ok (.imul, 1) := by decide +kernel
theorem dd_M_ofTale_7 : decode c_M_ofTale 7 = .ok (.iload_n 2, 1) := by decide +kernel
theorem dd_M_ofTale_8 : decode c_M_ofTale 8 = .ok (.iadd, 1) := by decide +kernel
theorem dd_M_ofTale_9 : decode c_M_ofTale 9 = .ok (.iaload, 1) := by decide +kernel
theorem dd_M_ofTale_10 : decode c_M_ofTale 10 = .ok (.ireturn, 1) := by decide +kernel
theorem dd_M_ofHouse_0 : decode c_M_ofHouse 0 = .ok (.aload_n 0, 1) := by decide +kernel
theorem dd_M_ofHouse_1 : decode c_M_ofHouse 1 = .ok (.getfield 52, 3) := by decide +kernel
theorem dd_M_ofHouse_4 : decode c_M_ofHouse 4 = .ok (.iconst 3, 1) := by decide +kernel
theorem dd_M_ofHouse_5 : decode c_M_ofHouse 5 = .ok (.iload_n 1, 1) := by decide +kernel
theorem dd_M_ofHouse_6 : decode c_M_ofHouse 6 = .ok (.imul, 1) := by decide +kernel
theorem dd_M_ofHouse_7 : decode c_M_ofHouse 7 = .ok (.iload_n 2, 1) := by decide +kernel
theorem dd_M_ofHouse_8 : decode c_M_ofHouse 8 = .ok (.iadd, 1) := by decide +kernel
theorem dd_M_ofHouse_9 : decode c_M_ofHouse 9 = .ok (.iaload, 1) := by decide +kernel
theorem dd_M_ofHouse_10 : decode c_M_ofHouse 10 = .ok (.ireturn, 1) := by decide +kernel
theorem dd_M_takeCoast_0 : decode c_M_takeCoast 0 = .ok (.aload_n 0, 1) := by decide +kernel
theorem dd_M_takeCoast_1 : decode c_M_takeCoast 1 = .ok (.aload_n 0, 1) := by decide +kernel
theorem dd_M_takeCoast_2 : decode c_M_takeCoast 2 = .ok (.getfield 226, 3) := by decide +kernel
theorem dd_M_takeCoast_5 : decode c_M_takeCoast 5 = .ok (.putfield 242, 3) := by decide +kernel
theorem dd_M_takeCoast_8 : decode c_M_takeCoast 8 = .ok (.aload_n 0, 1) := by decide +kernel
theorem dd_M_takeCoast_9 : decode c_M_takeCoast 9 = .ok (.aload_n 0, 1) := by decide +kernel
theorem dd_M_takeCoast_10 : decode c_M_takeCoast 10 = .ok (.getfield 229, 3) := by decide +kernel
theorem dd_M_takeCoast_13 : decode c_M_takeCoast 13 = .ok (.putfield 245, 3) := by decide +kernel
theorem dd_M_takeCoast_16 : decode c_M_takeCoast 16 = .ok (.iconst 0, 1) := by decide +kernel
theorem dd_M_takeCoast_17 : decode c_M_takeCoast 17 = .ok (.istore_n 1, 1) := by decide +kernel
theorem dd_M_takeCoast_18 : decode c_M_takeCoast 18 = .ok (.iload_n 1, 1) := by decide +kernel
theorem dd_M_takeCoast_19 : decode c_M_takeCoast 19 = .ok (.iconst 4, 1) := by decide +kernel
theorem dd_M_takeCoast_20 : decode c_M_takeCoast 20 = .ok (.if_icmp .ge 21, 3) := by decide +kernel
theorem dd_M_takeCoast_23 : decode c_M_takeCoast 23 = .ok (.aload_n 0, 1) := by decide +kernel
theorem dd_M_takeCoast_24 : decode c_M_takeCoast 24 = .ok (.getfield 49, 3) := by decide +kernel
theorem dd_M_takeCoast_27 : decode c_M_takeCoast 27 = .ok (.iload_n 1, 1) := by decide +kernel
theorem dd_M_takeCoast_28 : decode c_M_takeCoast 28 = .ok (.aload_n 0, 1) := by decide +kernel
theorem dd_M_takeCoast_29 : decode c_M_takeCoast 29 = .ok (.getfield 40, 3) := by decide +kernel
theorem dd_M_takeCoast_32 : decode c_M_takeCoast 32 = .ok (.iload_n 1, 1) := by decide +kernel
theorem dd_M_takeCoast_33 : decode c_M_takeCoast 33 = .ok (.iaload, 1) := by decide +kernel
theorem dd_M_takeCoast_34 : decode c_M_takeCoast 34 = .ok (.iastore, 1) := by decide +kernel
theorem dd_M_takeCoast_35 : decode c_M_takeCoast 35 = .ok (.iinc 1 1, 3) := by decide +kernel
theorem dd_M_takeCoast_38 : decode c_M_takeCoast 38 = .ok (.goto (-20), 3) := by decide +kernel
theorem dd_M_takeCoast_41 : decode c_M_takeCoast 41 = .ok (.iconst 0, 1) := by decide +kernel
theorem dd_M_takeCoast_42 : decode c_M_takeCoast 42 = .ok (.istore_n 1, 1) := by decide +kernel
theorem dd_M_takeCoast_43 : decode c_M_takeCoast 43 = .ok (.iload_n 1, 1) := by decide +kernel
theorem dd_M_takeCoast_44 : decode c_M_takeCoast 44 = .ok (.bipush 18, 2) := by decide +kernel
theorem dd_M_takeCoast_46 : decode c_M_takeCoast 46 = .ok (.if_icmp .ge 21, 3) := by decide +kernel
theorem dd_M_takeCoast_49 : decode c_M_takeCoast 49 = .ok (.aload_n 0, 1) := by decide +kernel
theorem dd_M_takeCoast_50 : decode c_M_takeCoast 50 = .ok (.getfield 52, 3) := by decide +kernel
theorem dd_M_takeCoast_53 : decode c_M_takeCoast 53 = .ok (.iload_n 1, 1) := by decide +kernel
theorem dd_M_takeCoast_54 : decode c_M_takeCoast 54 = .ok (.aload_n 0, 1) := by decide +kernel
theorem dd_M_takeCoast_55 : decode c_M_takeCoast 55 = .ok (.getfield 43, 3) := by decide +kernel
theorem dd_M_takeCoast_58 : decode c_M_takeCoast 58 = .ok (.iload_n 1, 1) := by decide +kernel
theorem dd_M_takeCoast_59 : decode c_M_takeCoast 59 = .ok (.iaload, 1) := by decide +kernel
theorem dd_M_takeCoast_60 : decode c_M_takeCoast 60 = .ok (.iastore, 1) := by decide +kernel
theorem dd_M_takeCoast_61 : decode c_M_takeCoast 61 = .ok (.iinc 1 1, 3) := by decide +kernel
theorem dd_M_takeCoast_64 : decode c_M_takeCoast 64 = .ok (.goto (-21), 3) := by decide +kernel
theorem dd_M_takeCoast_67 : decode c_M_takeCoast 67 = .ok (.iconst 0, 1) := by decide +kernel
theorem dd_M_takeCoast_68 : decode c_M_takeCoast 68 = .ok (.istore_n 1, 1) := by decide +kernel
theorem dd_M_takeCoast_69 : decode c_M_takeCoast 69 = .ok (.iload_n 1, 1) := by decide +kernel
theorem dd_M_takeCoast_70 : decode c_M_takeCoast 70 = .ok (.bipush 18, 2) := by decide +kernel
theorem dd_M_takeCoast_72 : decode c_M_takeCoast 72 = .ok (.if_icmp .ge 21, 3) := by decide +kernel
theorem dd_M_takeCoast_75 : decode c_M_takeCoast 75 = .ok (.aload_n 0, 1) := by decide +kernel
theorem dd_M_takeCoast_76 : decode c_M_takeCoast 76 = .ok (.getfield 55, 3) := by decide +kernel
theorem dd_M_takeCoast_79 : decode c_M_takeCoast 79 = .ok (.iload_n 1, 1) := by decide +kernel
theorem dd_M_takeCoast_80 : decode c_M_takeCoast 80 = .ok (.aload_n 0, 1) := by decide +kernel
theorem dd_M_takeCoast_81 : decode c_M_takeCoast 81 = .ok (.getfield 46, 3) := by decide +kernel
theorem dd_M_takeCoast_84 : decode c_M_takeCoast 84 = .ok (.iload_n 1, 1) := by decide +kernel
theorem dd_M_takeCoast_85 : decode c_M_takeCoast 85 = .ok (.iaload, 1) := by decide +kernel
theorem dd_M_takeCoast_86 : decode c_M_takeCoast 86 = .ok (.iastore, 1) := by decide +kernel
theorem dd_M_takeCoast_87 : decode c_M_takeCoast 87 = .ok (.iinc 1 1, 3) := by decide +kernel
theorem dd_M_takeCoast_90 : decode c_M_takeCoast 90 = .ok (.goto (-21), 3) := by decide +kernel
theorem dd_M_takeCoast_93 : decode c_M_takeCoast 93 = .ok (.iconst 0, 1) := by decide +kernel
theorem dd_M_takeCoast_94 : decode c_M_takeCoast 94 = .ok (.istore_n 1, 1) := by decide +kernel
theorem dd_M_takeCoast_95 : decode c_M_takeCoast 95 = .ok (.iload_n 1, 1) := by decide +kernel
theorem dd_M_takeCoast_96 : decode c_M_takeCoast 96 = .ok (.sipush 229, 3) := by decide +kernel
theorem dd_M_takeCoast_99 : decode c_M_takeCoast 99 = .ok (.if_icmp .ge 16, 3) := by decide +kernel
theorem dd_M_takeCoast_102 : decode c_M_takeCoast 102 = .ok (.aload_n 0, 1) := by decide +kernel
theorem dd_M_takeCoast_103 : decode c_M_takeCoast 103 = .ok (.getfield 58, 3) := by decide +kernel
theorem dd_M_takeCoast_106 : decode c_M_takeCoast 106 = .ok (.iload_n 1, 1) := by decide +kernel
theorem dd_M_takeCoast_107 : decode c_M_takeCoast 107 = .ok (.iconst 0, 1) := by decide +kernel
theorem dd_M_takeCoast_108 : decode c_M_takeCoast 108 = .ok (.iastore, 1) := by decide +kernel
theorem dd_M_takeCoast_109 : decode c_M_takeCoast 109 = .ok (.iinc 1 1, 3) := by decide +kernel
theorem dd_M_takeCoast_112 : decode c_M_takeCoast 112 = .ok (.goto (-17), 3) := by decide +kernel
theorem dd_M_takeCoast_115 : decode c_M_takeCoast 115 = .ok (.iconst 0, 1) := by decide +kernel
theorem dd_M_takeCoast_116 : decode c_M_takeCoast 116 = .ok (.istore_n 1, 1) := by decide +kernel
theorem dd_M_takeCoast_117 : decode c_M_takeCoast 117 = .ok (.iload_n 1, 1) := by decide +kernel
theorem dd_M_takeCoast_118 : decode c_M_takeCoast 118 = .ok (.aload_n 0, 1) := by decide +kernel
theorem dd_M_takeCoast_119 : decode c_M_takeCoast 119 = .ok (.getfield 245, 3) := by decide +kernel
theorem dd_M_takeCoast_122 : decode c_M_takeCoast 122 = .ok (.if_icmp .ge 63, 3) := by decide +kernel
theorem dd_M_takeCoast_125 : decode c_M_takeCoast 125 = .ok (.aload_n 0, 1) := by decide +kernel
theorem dd_M_takeCoast_126 : decode c_M_takeCoast 126 = .ok (.getfield 58, 3) := by decide +kernel
theorem dd_M_takeCoast_129 : decode c_M_takeCoast 129 = .ok (.bipush 36, 2) := by decide +kernel
theorem dd_M_takeCoast_131 : decode c_M_takeCoast 131 = .ok (.iload_n 1, 1) := by decide +kernel
theorem dd_M_takeCoast_132 : decode c_M_takeCoast 132 = .ok (.iadd, 1) := by decide +kernel
theorem dd_M_takeCoast_133 : decode c_M_takeCoast 133 = .ok (.aload_n 0, 1) := by decide +kernel
theorem dd_M_takeCoast_134 : decode c_M_takeCoast 134 = .ok (.iload_n 1, 1) := by decide +kernel
theorem dd_M_takeCoast_135 : decode c_M_takeCoast 135 = .ok (.iconst 1, 1) := by decide +kernel
theorem dd_M_takeCoast_136 : decode c_M_takeCoast 136 = .ok (.invokevirtual 248, 3) := by decide +kernel
theorem dd_M_takeCoast_139 : decode c_M_takeCoast 139 = .ok (.iastore, 1) := by decide +kernel
theorem dd_M_takeCoast_140 : decode c_M_takeCoast 140 = .ok (.iconst 0, 1) := by decide +kernel
theorem dd_M_takeCoast_141 : decode c_M_takeCoast 141 = .ok (.istore_n 2, 1) := by decide +kernel
theorem dd_M_takeCoast_142 : decode c_M_takeCoast 142 = .ok (.iload_n 2, 1) := by decide +kernel
theorem dd_M_takeCoast_143 : decode c_M_takeCoast 143 = .ok (.aload_n 0, 1) := by decide +kernel
theorem dd_M_takeCoast_144 : decode c_M_takeCoast 144 = .ok (.getfield 242, 3) := by decide +kernel
theorem dd_M_takeCoast_147 : decode c_M_takeCoast 147 = .ok (.if_icmp .ge 32, 3) := by decide +kernel
theorem dd_M_takeCoast_150 : decode c_M_takeCoast 150 = .ok (.aload_n 0, 1) := by decide +kernel
theorem dd_M_takeCoast_151 : decode c_M_takeCoast 151 = .ok (.getfield 58, 3) := by decide +kernel
theorem dd_M_takeCoast_154 : decode c_M_takeCoast 154 = .ok (.iconst 0, 1) := by decide +kernel
theorem dd_M_takeCoast_155 : decode c_M_takeCoast 155 = .ok (.bipush 6, 2) := by decide +kernel
theorem dd_M_takeCoast_157 : decode c_M_takeCoast 157 = .ok (.iload_n 2, 1) := by decide +kernel
theorem dd_M_takeCoast_158 : decode c_M_takeCoast 158 = .ok (.imul, 1) := by decide +kernel
theorem dd_M_takeCoast_159 : decode c_M_takeCoast 159 = .ok (.iadd, 1) := by decide +kernel
theorem dd_M_takeCoast_160 : decode c_M_takeCoast 160 = .ok (.iload_n 1, 1) := by decide +kernel
theorem dd_M_takeCoast_161 : decode c_M_takeCoast 161 = .ok (.iadd, 1) := by decide +kernel
theorem dd_M_takeCoast_162 : decode c_M_takeCoast 162 = .ok (.aload_n 0, 1) := by decide +kernel
theorem dd_M_takeCoast_163 : decode c_M_takeCoast 163 = .ok (.iload_n 2, 1) := by decide +kernel
theorem dd_M_takeCoast_164 : decode c_M_takeCoast 164 = .ok (.iconst 0, 1) := by decide +kernel
theorem dd_M_takeCoast_165 : decode c_M_takeCoast 165 = .ok (.invokevirtual 251, 3) := by decide +kernel
theorem dd_M_takeCoast_168 : decode c_M_takeCoast 168 = .ok (.iload_n 1, 1) := by decide +kernel
theorem dd_M_takeCoast_169 : decode c_M_takeCoast 169 = .ok (.ishr, 1) := by decide +kernel
theorem dd_M_takeCoast_170 : decode c_M_takeCoast 170 = .ok (.iconst 1, 1) := by decide +kernel
theorem dd_M_takeCoast_171 : decode c_M_takeCoast 171 = .ok (.iand, 1) := by decide +kernel
theorem dd_M_takeCoast_172 : decode c_M_takeCoast 172 = .ok (.iastore, 1) := by decide +kernel
theorem dd_M_takeCoast_173 : decode c_M_takeCoast 173 = .ok (.iinc 2 1, 3) := by decide +kernel
theorem dd_M_takeCoast_176 : decode c_M_takeCoast 176 = .ok (.goto (-34), 3) := by decide +kernel
theorem dd_M_takeCoast_179 : decode c_M_takeCoast 179 = .ok (.iinc 1 1, 3) := by decide +kernel
theorem dd_M_takeCoast_182 : decode c_M_takeCoast 182 = .ok (.goto (-65), 3) := by decide +kernel
theorem dd_M_takeCoast_185 : decode c_M_takeCoast 185 = .ok (.aload_n 0, 1) := by decide +kernel
theorem dd_M_takeCoast_186 : decode c_M_takeCoast 186 = .ok (.getfield 58, 3) := by decide +kernel
theorem dd_M_takeCoast_189 : decode c_M_takeCoast 189 = .ok (.bipush 42, 2) := by decide +kernel
theorem dd_M_takeCoast_191 : decode c_M_takeCoast 191 = .ok (.aload_n 0, 1) := by decide +kernel
theorem dd_M_takeCoast_192 : decode c_M_takeCoast 192 = .ok (.getfield 49, 3) := by decide +kernel
theorem dd_M_takeCoast_195 : decode c_M_takeCoast 195 = .ok (.iconst 2, 1) := by decide +kernel
theorem dd_M_takeCoast_196 : decode c_M_takeCoast 196 = .ok (.iaload, 1) := by decide +kernel
theorem dd_M_takeCoast_197 : decode c_M_takeCoast 197 = .ok (.iastore, 1) := by decide +kernel
theorem dd_M_takeCoast_198 : decode c_M_takeCoast 198 = .ok (.aload_n 0, 1) := by decide +kernel
theorem dd_M_takeCoast_199 : decode c_M_takeCoast 199 = .ok (.getfield 58, 3) := by decide +kernel
theorem dd_M_takeCoast_202 : decode c_M_takeCoast 202 = .ok (.bipush 43, 2) := by decide +kernel
theorem dd_M_takeCoast_204 : decode c_M_takeCoast 204 = .ok (.aload_n 0, 1) := by decide +kernel
theorem dd_M_takeCoast_205 : decode c_M_takeCoast 205 = .ok (.getfield 49, 3) := by decide +kernel
theorem dd_M_takeCoast_208 : decode c_M_takeCoast 208 = .ok (.iconst 1, 1) := by decide +kernel
theorem dd_M_takeCoast_209 : decode c_M_takeCoast 209 = .ok (.iaload, 1) := by decide +kernel
theorem dd_M_takeCoast_210 : decode c_M_takeCoast 210 = .ok (.iconst 1, 1) := by decide +kernel
theorem dd_M_takeCoast_211 : decode c_M_takeCoast 211 = .ok (.aload_n 0, 1) := by decide +kernel
theorem dd_M_takeCoast_212 : decode c_M_takeCoast 212 = .ok (.getfield 245, 3) := by decide +kernel
theorem dd_M_takeCoast_215 : decode c_M_takeCoast 215 = .ok (.ishl, 1) := by decide +kernel
theorem dd_M_takeCoast_216 : decode c_M_takeCoast 216 = .ok (.iconst 1, 1) := by decide +kernel
theorem dd_M_takeCoast_217 : decode c_M_takeCoast 217 = .ok (.isub, 1) := by decide +kernel
theorem dd_M_takeCoast_218 : decode c_M_takeCoast 218 = .ok (.iand, 1) := by decide +kernel
theorem dd_M_takeCoast_219 : decode c_M_takeCoast 219 = .ok (.iastore, 1) := by decide +kernel
theorem dd_M_takeCoast_220 : decode c_M_takeCoast 220 = .ok (.aload_n 0, 1) := by decide +kernel
theorem dd_M_takeCoast_221 : decode c_M_takeCoast 221 = .ok (.getfield 58, 3) := by decide +kernel
theorem dd_M_takeCoast_224 : decode c_M_takeCoast 224 = .ok (.bipush 44, 2) := by decide +kernel
theorem dd_M_takeCoast_226 : decode c_M_takeCoast 226 = .ok (.aload_n 0, 1) := by decide +kernel
theorem dd_M_takeCoast_227 : decode c_M_takeCoast 227 = .ok (.getfield 49, 3) := by decide +kernel
theorem dd_M_takeCoast_230 : decode c_M_takeCoast 230 = .ok (.iconst 0, 1) := by decide +kernel
theorem dd_M_takeCoast_231 : decode c_M_takeCoast 231 = .ok (.iaload, 1) := by decide +kernel
theorem dd_M_takeCoast_232 : decode c_M_takeCoast 232 = .ok (.iastore, 1) := by decide +kernel
theorem dd_M_takeCoast_233 : decode c_M_takeCoast 233 = .ok (.aload_n 0, 1) := by decide +kernel
theorem dd_M_takeCoast_234 : decode c_M_takeCoast 234 = .ok (.iconst 0, 1) := by decide +kernel
theorem dd_M_takeCoast_235 : decode c_M_takeCoast 235 = .ok (.putfield 254, 3) := by decide +kernel
theorem dd_M_takeCoast_238 : decode c_M_takeCoast 238 = .ok (.aload_n 0, 1) := by decide +kernel
theorem dd_M_takeCoast_239 : decode c_M_takeCoast 239 = .ok (.iconst 0, 1) := by decide +kernel
theorem dd_M_takeCoast_240 : decode c_M_takeCoast 240 = .ok (.putfield 257, 3) := by decide +kernel
theorem dd_M_takeCoast_243 : decode c_M_takeCoast 243 = .ok (.aload_n 0, 1) := by decide +kernel
theorem dd_M_takeCoast_244 : decode c_M_takeCoast 244 = .ok (.iconst 0, 1) := by decide +kernel
theorem dd_M_takeCoast_245 : decode c_M_takeCoast 245 = .ok (.putfield 260, 3) := by decide +kernel
theorem dd_M_takeCoast_248 : decode c_M_takeCoast 248 = .ok (.aload_n 0, 1) := by decide +kernel
theorem dd_M_takeCoast_249 : decode c_M_takeCoast 249 = .ok (.getfield 242, 3) := by decide +kernel
theorem dd_M_takeCoast_252 : decode c_M_takeCoast 252 = .ok (.ireturn, 1) := by decide +kernel
