theorem dX10_longOf_7 : decode cX10_longOf 7 = .ok (.iadd, 1) := by decide +kernel
theorem dX10_longOf_8 : decode cX10_longOf 8 = .ok (.bipush 7, 2) := by decide +kernel
theorem dX10_longOf_10 : decode cX10_longOf 10 = .ok (.iload_n 2, 1) := by decide +kernel
theorem dX10_longOf_11 : decode cX10_longOf 11 = .ok (.imul, 1) := by decide +kernel
theorem dX10_longOf_12 : decode cX10_longOf 12 = .ok (.iadd, 1) := by decide +kernel
theorem dX10_longOf_13 : decode cX10_longOf 13 = .ok (.istore_n 3, 1) := by decide +kernel
theorem dX10_longOf_14 : decode cX10_longOf 14 = .ok (.iconst 0, 1) := by decide +kernel
theorem dX10_longOf_15 : decode cX10_longOf 15 = .ok (.istore 4, 2) := by decide +kernel
theorem dX10_longOf_17 : decode cX10_longOf 17 = .ok (.iconst 1, 1) := by decide +kernel
theorem dX10_longOf_18 : decode cX10_longOf 18 = .ok (.istore 5, 2) := by decide +kernel
theorem dX10_longOf_20 : decode cX10_longOf 20 = .ok (.iload 5, 2) := by decide +kernel
theorem dX10_longOf_22 : decode cX10_longOf 22 = .ok (.aload_n 0, 1) := by decide +kernel
theorem dX10_longOf_23 : decode cX10_longOf 23 = .ok (.getfield 7, 3) := by decide +kernel
theorem dX10_longOf_26 : decode cX10_longOf 26 = .ok (.iload_n 3, 1) := by decide +kernel
theorem dX10_longOf_27 : decode cX10_longOf 27 = .ok (.iaload, 1) := by decide +kernel
theorem dX10_longOf_28 : decode cX10_longOf 28 = .ok (.if_icmp .gt 31, 3) := by decide +kernel
theorem dX10_longOf_31 : decode cX10_longOf 31 = .ok (.iload 4, 2) := by decide +kernel
theorem dX10_longOf_33 : decode cX10_longOf 33 = .ok (.aload_n 0, 1) := by decide +kernel
theorem dX10_longOf_34 : decode cX10_longOf 34 = .ok (.getfield 7, 3) := by decide +kernel
theorem dX10_longOf_37 : decode cX10_longOf 37 = .ok (.bipush 70, 2) := by decide +kernel
theorem dX10_longOf_39 : decode cX10_longOf 39 = .ok (.aload_n 0, 1) := by decide +kernel
theorem dX10_longOf_40 : decode cX10_longOf 40 = .ok (.getfield 7, 3) := by decide +kernel
theorem dX10_longOf_43 : decode cX10_longOf 43 = .ok (.iload_n 3, 1) := by decide +kernel
theorem dX10_longOf_44 : decode cX10_longOf 44 = .ok (.iload 5, 2) := by decide +kernel
theorem dX10_longOf_46 : decode cX10_longOf 46 = .ok (.iadd, 1) := by decide +kernel
theorem dX10_longOf_47 : decode cX10_longOf 47 = .ok (.iaload, 1) := by decide +kernel
theorem dX10_longOf_48 : decode cX10_longOf 48 = .ok (.iadd, 1) := by decide +kernel
theorem dX10_longOf_49 : decode cX10_longOf 49 = .ok (.iaload, 1) := by decide +kernel
theorem dX10_longOf_50 : decode cX10_longOf 50 = .ok (.iadd, 1) := by decide +kernel
theorem dX10_longOf_51 : decode cX10_longOf 51 = .ok (.istore 4, 2) := by decide +kernel
theorem dX10_longOf_53 : decode cX10_longOf 53 = .ok (.iinc 5 1, 3) := by decide +kernel
theorem dX10_longOf_56 : decode cX10_longOf 56 = .ok (.goto (-36), 3) := by decide +kernel
theorem dX10_longOf_59 : decode cX10_longOf 59 = .ok (.iload 4, 2) := by decide +kernel
theorem dX10_longOf_61 : decode cX10_longOf 61 = .ok (.ireturn, 1) := by decide +kernel
theorem dX10_canBeSaid_0 : decode cX10_canBeSaid 0 = .ok (.iconst 0, 1) := by decide +kernel
theorem dX10_canBeSaid_1 : decode cX10_canBeSaid 1 = .ok (.istore_n 3, 1) := by decide +kernel
theorem dX10_canBeSaid_2 : decode cX10_canBeSaid 2 = .ok (.iload_n 3, 1) := by decide +kernel
theorem dX10_canBeSaid_3 : decode cX10_canBeSaid 3 = .ok (.aload_n 0, 1) := by decide +kernel
theorem dX10_canBeSaid_4 : decode cX10_canBeSaid 4 = .ok (.getfield 7, 3) := by decide +kernel
theorem dX10_canBeSaid_7 : decode cX10_canBeSaid 7 = .ok (.sipush 198, 3) := by decide +kernel
theorem dX10_canBeSaid_10 : decode cX10_canBeSaid 10 = .ok (.iload_n 1, 1) := by decide +kernel
theorem dX10_canBeSaid_11 : decode cX10_canBeSaid 11 = .ok (.iadd, 1) := by decide +kernel
theorem dX10_canBeSaid_12 : decode cX10_canBeSaid 12 = .ok (.iaload, 1) := by decide +kernel
theorem dX10_canBeSaid_13 : decode cX10_canBeSaid 13 = .ok (.if_icmp .ge 24, 3) := by decide +kernel
theorem dX10_canBeSaid_16 : decode cX10_canBeSaid 16 = .ok (.aload_n 0, 1) := by decide +kernel
theorem dX10_canBeSaid_17 : decode cX10_canBeSaid 17 = .ok (.iload_n 1, 1) := by decide +kernel
theorem dX10_canBeSaid_18 : decode cX10_canBeSaid 18 = .ok (.iload_n 3, 1) := by decide +kernel
theorem dX10_canBeSaid_19 : decode cX10_canBeSaid 19 = .ok (.invokevirtual 376, 3) := by decide +kernel
theorem dX10_canBeSaid_22 : decode cX10_canBeSaid 22 = .ok (.iload_n 2, 1) := by decide +kernel
theorem dX10_canBeSaid_23 : decode cX10_canBeSaid 23 = .ok (.iconst (-1), 1) := by decide +kernel
theorem dX10_canBeSaid_24 : decode cX10_canBeSaid 24 = .ok (.ixor, 1) := by decide +kernel
theorem dX10_canBeSaid_25 : decode cX10_canBeSaid 25 = .ok (.iand, 1) := by decide +kernel
theorem dX10_canBeSaid_26 : decode cX10_canBeSaid 26 = .ok (.ifCond .ne 5, 3) := by decide +kernel
theorem dX10_canBeSaid_29 : decode cX10_canBeSaid 29 = .ok (.iconst 1, 1) := by decide +kernel
theorem dX10_canBeSaid_30 : decode cX10_canBeSaid 30 = .ok (.ireturn, 1) := by decide +kernel
theorem dX10_canBeSaid_31 : decode cX10_canBeSaid 31 = .ok (.iinc 3 1, 3) := by decide +kernel
theorem dX10_canBeSaid_34 : decode cX10_canBeSaid 34 = .ok (.goto (-32), 3) := by decide +kernel
theorem dX10_canBeSaid_37 : decode cX10_canBeSaid 37 = .ok (.iconst 0, 1) := by decide +kernel
theorem dX10_canBeSaid_38 : decode cX10_canBeSaid 38 = .ok (.ireturn, 1) := by decide +kernel
theorem dX10_saidBy_0 : decode cX10_saidBy 0 = .ok (.iconst 0, 1) := by decide +kernel
theorem dX10_saidBy_1 : decode cX10_saidBy 1 = .ok (.istore_n 2, 1) := by decide +kernel
theorem dX10_saidBy_2 : decode cX10_saidBy 2 = .ok (.iconst 0, 1) := by decide +kernel
theorem dX10_saidBy_3 : decode cX10_saidBy 3 = .ok (.istore_n 3, 1) := by decide +kernel
theorem dX10_saidBy_4 : decode cX10_saidBy 4 = .ok (.iload_n 3, 1) := by decide +kernel
theorem dX10_saidBy_5 : decode cX10_saidBy 5 = .ok (.aload_n 0, 1) := by decide +kernel
theorem dX10_saidBy_6 : decode cX10_saidBy 6 = .ok (.getfield 7, 3) := by decide +kernel
theorem dX10_saidBy_9 : decode cX10_saidBy 9 = .ok (.bipush 66, 2) := by decide +kernel
theorem dX10_saidBy_11 : decode cX10_saidBy 11 = .ok (.iaload, 1) := by decide +kernel
theorem dX10_saidBy_12 : decode cX10_saidBy 12 = .ok (.if_icmp .ge 28, 3) := by decide +kernel
theorem dX10_saidBy_15 : decode cX10_saidBy 15 = .ok (.iload_n 2, 1) := by decide +kernel
theorem dX10_saidBy_16 : decode cX10_saidBy 16 = .ok (.aload_n 0, 1) := by decide +kernel
theorem dX10_saidBy_17 : decode cX10_saidBy 17 = .ok (.iload_n 3, 1) := by decide +kernel
theorem dX10_saidBy_18 : decode cX10_saidBy 18 = .ok (.iload_n 1, 1) := by decide +kernel
theorem dX10_saidBy_19 : decode cX10_saidBy 19 = .ok (.invokevirtual 379, 3) := by decide +kernel
theorem dX10_saidBy_22 : decode cX10_saidBy 22 = .ok (.ifCond .eq 9, 3) := by decide +kernel
theorem dX10_saidBy_25 : decode cX10_saidBy 25 = .ok (.iconst 1, 1) := by decide +kernel
theorem dX10_saidBy_26 : decode cX10_saidBy 26 = .ok (.iload_n 3, 1) := by decide +kernel
theorem dX10_saidBy_27 : decode cX10_saidBy 27 = .ok (.ishl, 1) := by decide +kernel
theorem dX10_saidBy_28 : decode cX10_saidBy 28 = .ok (.goto 4, 3) := by decide +kernel
theorem dX10_saidBy_31 : decode cX10_saidBy 31 = .ok (.iconst 0, 1) := by decide +kernel
theorem dX10_saidBy_32 : decode cX10_saidBy 32 = .ok (.ior, 1) := by decide +kernel
theorem dX10_saidBy_33 : decode cX10_saidBy 33 = .ok (.istore_n 2, 1) := by decide +kernel
theorem dX10_saidBy_34 : decode cX10_saidBy 34 = .ok (.iinc 3 1, 3) := by decide +kernel
theorem dX10_saidBy_37 : decode cX10_saidBy 37 = .ok (.goto (-33), 3) := by decide +kernel
theorem dX10_saidBy_40 : decode cX10_saidBy 40 = .ok (.iload_n 2, 1) := by decide +kernel
theorem dX10_saidBy_41 : decode cX10_saidBy 41 = .ok (.ireturn, 1) := by decide +kernel
theorem dX10_wording_0 : decode cX10_wording 0 = .ok (.iload_n 1, 1) := by decide +kernel
theorem dX10_wording_1 : decode cX10_wording 1 = .ok (.iconst 0, 1) := by decide +kernel
theorem dX10_wording_2 : decode cX10_wording 2 = .ok (.aload_n 0, 1) := by decide +kernel
theorem dX10_wording_3 : decode cX10_wording 3 = .ok (.getfield 7, 3) := by decide +kernel
theorem dX10_wording_6 : decode cX10_wording 6 = .ok (.bipush 66, 2) := by decide +kernel
theorem dX10_wording_8 : decode cX10_wording 8 = .ok (.iaload, 1) := by decide +kernel
theorem dX10_wording_9 : decode cX10_wording 9 = .ok (.iconst 1, 1) := by decide +kernel
theorem dX10_wording_10 : decode cX10_wording 10 = .ok (.isub, 1) := by decide +kernel
theorem dX10_wording_11 : decode cX10_wording 11 = .ok (.invokestatic 59, 3) := by decide +kernel
theorem dX10_wording_14 : decode cX10_wording 14 = .ok (.ifCond .eq 12, 3) := by decide +kernel
theorem dX10_wording_17 : decode cX10_wording 17 = .ok (.iload_n 2, 1) := by decide +kernel
theorem dX10_wording_18 : decode cX10_wording 18 = .ok (.iconst 0, 1) := by decide +kernel
theorem dX10_wording_19 : decode cX10_wording 19 = .ok (.iconst 1, 1) := by decide +kernel
theorem dX10_wording_20 : decode cX10_wording 20 = .ok (.invokestatic 59, 3) := by decide +kernel
theorem dX10_wording_23 : decode cX10_wording 23 = .ok (.ifCond .ne 5, 3) := by decide +kernel
theorem dX10_wording_26 : decode cX10_wording 26 = .ok (.iconst (-1), 1) := by decide +kernel
theorem dX10_wording_27 : decode cX10_wording 27 = .ok (.ireturn, 1) := by decide +kernel
theorem dX10_wording_28 : decode cX10_wording 28 = .ok (.iconst (-1), 1) := by decide +kernel
theorem dX10_wording_29 : decode cX10_wording 29 = .ok (.istore_n 3, 1) := by decide +kernel
theorem dX10_wording_30 : decode cX10_wording 30 = .ok (.iconst 0, 1) := by decide +kernel
theorem dX10_wording_31 : decode cX10_wording 31 = .ok (.istore 4, 2) := by decide +kernel
theorem dX10_wording_33 : decode cX10_wording 33 = .ok (.iload 4, 2) := by decide +kernel
theorem dX10_wording_35 : decode cX10_wording 35 = .ok (.aload_n 0, 1) := by decide +kernel
theorem dX10_wording_36 : decode cX10_wording 36 = .ok (.getfield 7, 3) := by decide +kernel
theorem dX10_wording_39 : decode cX10_wording 39 = .ok (.sipush 198, 3) := by decide +kernel
theorem dX10_wording_42 : decode cX10_wording 42 = .ok (.iload_n 1, 1) := by decide +kernel
theorem dX10_wording_43 : decode cX10_wording 43 = .ok (.iadd, 1) := by decide +kernel
theorem dX10_wording_44 : decode cX10_wording 44 = .ok (.iaload, 1) := by decide +kernel
theorem dX10_wording_45 : decode cX10_wording 45 = .ok (.if_icmp .ge 50, 3) := by decide +kernel
theorem dX10_wording_48 : decode cX10_wording 48 = .ok (.aload_n 0, 1) := by decide +kernel
theorem dX10_wording_49 : decode cX10_wording 49 = .ok (.iload_n 1, 1) := by decide +kernel
theorem dX10_wording_50 : decode cX10_wording 50 = .ok (.iload 4, 2) := by decide +kernel
theorem dX10_wording_52 : decode cX10_wording 52 = .ok (.invokevirtual 376, 3) := by decide +kernel
theorem dX10_wording_55 : decode cX10_wording 55 = .ok (.aload_n 0, 1) := by decide +kernel
theorem dX10_wording_56 : decode cX10_wording 56 = .ok (.getfield 7, 3) := by decide +kernel
theorem dX10_wording_59 : decode cX10_wording 59 = .ok (.iconst 3, 1) := by decide +kernel
theorem dX10_wording_60 : decode cX10_wording 60 = .ok (.iaload, 1) := by decide +kernel
theorem dX10_wording_61 : decode cX10_wording 61 = .ok (.iand, 1) := by decide +kernel
theorem dX10_wording_62 : decode cX10_wording 62 = .ok (.ifCond .ne 27, 3) := by decide +kernel
theorem dX10_wording_65 : decode cX10_wording 65 = .ok (.iload_n 3, 1) := by decide +kernel
theorem dX10_wording_66 : decode cX10_wording 66 = .ok (.iconst (-1), 1) := by decide +kernel
theorem dX10_wording_67 : decode cX10_wording 67 = .ok (.if_icmp .eq 19, 3) := by decide +kernel
theorem dX10_wording_70 : decode cX10_wording 70 = .ok (.aload_n 0, 1) := by decide +kernel
theorem dX10_wording_71 : decode cX10_wording 71 = .ok (.iload_n 1, 1) := by decide +kernel
theorem dX10_wording_72 : decode cX10_wording 72 = .ok (.iload 4, 2) := by decide +kernel
theorem dX10_wording_74 : decode cX10_wording 74 = .ok (.invokevirtual 382, 3) := by decide +kernel
theorem dX10_wording_77 : decode cX10_wording 77 = .ok (.aload_n 0, 1) := by decide +kernel
theorem dX10_wording_78 : decode cX10_wording 78 = .ok (.iload_n 1, 1) := by decide +kernel
theorem dX10_wording_79 : decode cX10_wording 79 = .ok (.iload_n 3, 1) := by decide +kernel
theorem dX10_wording_80 : decode cX10_wording 80 = .ok (.invokevirtual 382, 3) := by decide +kernel
theorem dX10_wording_83 : decode cX10_wording 83 = .ok (.if_icmp .ge 6, 3) := by decide +kernel
theorem dX10_wording_86 : decode cX10_wording 86 = .ok (.iload 4, 2) := by decide +kernel
theorem dX10_wording_88 : decode cX10_wording 88 = .ok (.istore_n 3, 1) := by decide +kernel
theorem dX10_wording_89 : decode cX10_wording 89 = .ok (.iinc 4 1, 3) := by decide +kernel
theorem dX10_wording_92 : decode cX10_wording 92 = .ok (.goto (-59), 3) := by decide +kernel
theorem dX10_wording_95 : decode cX10_wording 95 = .ok (.iload_n 3, 1) := by decide +kernel
theorem dX10_wording_96 : decode cX10_wording 96 = .ok (.iconst (-1), 1) := by decide +kernel
theorem dX10_wording_97 : decode cX10_wording 97 = .ok (.if_icmp .eq 8, 3) := by decide +kernel
theorem dX10_wording_100 : decode cX10_wording 100 = .ok (.iload_n 2, 1) := by decide +kernel
theorem dX10_wording_101 : decode cX10_wording 101 = .ok (.iconst 1, 1) := by decide +kernel
theorem dX10_wording_102 : decode cX10_wording 102 = .ok (.if_icmp .ne 7, 3) := by decide +kernel
theorem dX10_wording_105 : decode cX10_wording 105 = .ok (.iload_n 3, 1) := by decide +kernel
theorem dX10_wording_106 : decode cX10_wording 106 = .ok (.goto 9, 3) := by decide +kernel
theorem dX10_wording_109 : decode cX10_wording 109 = .ok (.aload_n 0, 1) := by decide +kernel
theorem dX10_wording_110 : decode cX10_wording 110 = .ok (.iload_n 1, 1) := by decide +kernel
theorem dX10_wording_111 : decode cX10_wording 111 = .ok (.iload_n 3, 1) := by decide +kernel
theorem dX10_wording_112 : decode cX10_wording 112 = .ok (.invokevirtual 382, 3) := by decide +kernel
theorem dX10_wording_115 : decode cX10_wording 115 = .ok (.ireturn, 1) := by decide +kernel
theorem dX10_laysMeanings_0 : decode cX10_laysMeanings 0 = .ok (.iconst 0, 1) := by decide +kernel
theorem dX10_laysMeanings_1 : decode cX10_laysMeanings 1 = .ok (.istore_n 1, 1) := by decide +kernel
theorem dX10_laysMeanings_2 : decode cX10_laysMeanings 2 = .ok (.iload_n 1, 1) := by decide +kernel
theorem dX10_laysMeanings_3 : decode cX10_laysMeanings 3 = .ok (.aload_n 0, 1) := by decide +kernel
theorem dX10_laysMeanings_4 : decode cX10_laysMeanings 4 = .ok (.getfield 7, 3) := by decide +kernel
theorem dX10_laysMeanings_7 : decode cX10_laysMeanings 7 = .ok (.bipush 66, 2) := by decide +kernel
theorem dX10_laysMeanings_9 : decode cX10_laysMeanings 9 = .ok (.iaload, 1) := by decide +kernel
theorem dX10_laysMeanings_10 : decode cX10_laysMeanings 10 = .ok (.if_icmp .ge 48, 3) := by decide +kernel
theorem dX10_laysMeanings_13 : decode cX10_laysMeanings 13 = .ok (.iconst 0, 1) := by decide +kernel
theorem dX10_laysMeanings_14 : decode cX10_laysMeanings 14 = .ok (.istore_n 2, 1) := by decide +kernel
theorem dX10_laysMeanings_15 : decode cX10_laysMeanings 15 = .ok (.iload_n 2, 1) := by decide +kernel
theorem dX10_laysMeanings_16 : decode cX10_laysMeanings 16 = .ok (.aload_n 0, 1) := by decide +kernel
theorem dX10_laysMeanings_17 : decode cX10_laysMeanings 17 = .ok (.getfield 7, 3) := by decide +kernel
theorem dX10_laysMeanings_20 : decode cX10_laysMeanings 20 = .ok (.sipush 198, 3) := by decide +kernel
theorem dX10_laysMeanings_23 : decode cX10_laysMeanings 23 = .ok (.iload_n 1, 1) := by decide +kernel
theorem dX10_laysMeanings_24 : decode cX10_laysMeanings 24 = .ok (.iadd, 1) := by decide +kernel
theorem dX10_laysMeanings_25 : decode cX10_laysMeanings 25 = .ok (.iaload, 1) := by decide +kernel
theorem dX10_laysMeanings_26 : decode cX10_laysMeanings 26 = .ok (.if_icmp .ge 26, 3) := by decide +kernel
theorem dX10_laysMeanings_29 : decode cX10_laysMeanings 29 = .ok (.aload_n 0, 1) := by decide +kernel
theorem dX10_laysMeanings_30 : decode cX10_laysMeanings 30 = .ok (.getfield 50, 3) := by decide +kernel
theorem dX10_laysMeanings_33 : decode cX10_laysMeanings 33 = .ok (.bipush 6, 2) := by decide +kernel
theorem dX10_laysMeanings_35 : decode cX10_laysMeanings 35 = .ok (.iload_n 1, 1) := by decide +kernel
theorem dX10_laysMeanings_36 : decode cX10_laysMeanings 36 = .ok (.imul, 1) := by decide +kernel
theorem dX10_laysMeanings_37 : decode cX10_laysMeanings 37 = .ok (.iload_n 2, 1) := by decide +kernel
theorem dX10_laysMeanings_38 : decode cX10_laysMeanings 38 = .ok (.iadd, 1) := by decide +kernel
theorem dX10_laysMeanings_39 : decode cX10_laysMeanings 39 = .ok (.aload_n 0, 1) := by decide +kernel
theorem dX10_laysMeanings_40 : decode cX10_laysMeanings 40 = .ok (.iload_n 1, 1) := by decide +kernel
theorem dX10_laysMeanings_41 : decode cX10_laysMeanings 41 = .ok (.iload_n 2, 1) := by decide +kernel
theorem dX10_laysMeanings_42 : decode cX10_laysMeanings 42 = .ok (.invokevirtual 376, 3) := by decide +kernel
theorem dX10_laysMeanings_45 : decode cX10_laysMeanings 45 = .ok (.iastore, 1) := by decide +kernel
theorem dX10_laysMeanings_46 : decode cX10_laysMeanings 46 = .ok (.iinc 2 1, 3) := by decide +kernel
theorem dX10_laysMeanings_49 : decode cX10_laysMeanings 49 = .ok (.goto (-34), 3) := by decide +kernel
theorem dX10_laysMeanings_52 : decode cX10_laysMeanings 52 = .ok (.iinc 1 1, 3) := by decide +kernel
theorem dX10_laysMeanings_55 : decode cX10_laysMeanings 55 = .ok (.goto (-53), 3) := by decide +kernel
theorem dX10_laysMeanings_58 : decode cX10_laysMeanings 58 = .ok (.return_, 1) := by decide +kernel
theorem dX10_saysAll_0 : decode cX10_saysAll 0 = .ok (.iconst 0, 1) := by decide +kernel
theorem dX10_saysAll_1 : decode cX10_saysAll 1 = .ok (.istore_n 3, 1) := by decide +kernel
theorem dX10_saysAll_2 : decode cX10_saysAll 2 = .ok (.iload_n 3, 1) := by decide +kernel
theorem dX10_saysAll_3 : decode cX10_saysAll 3 = .ok (.aload_n 0, 1) := by decide +kernel
theorem dX10_saysAll_4 : decode cX10_saysAll 4 = .ok (.getfield 7, 3) := by decide +kernel
theorem dX10_saysAll_7 : decode cX10_saysAll 7 = .ok (.bipush 66, 2) := by decide +kernel
theorem dX10_saysAll_9 : decode cX10_saysAll 9 = .ok (.iaload, 1) := by decide +kernel
theorem dX10_saysAll_10 : decode cX10_saysAll 10 = .ok (.if_icmp .ge 86, 3) := by decide +kernel
theorem dX10_saysAll_13 : decode cX10_saysAll 13 = .ok (.iload_n 1, 1) := by decide +kernel
theorem dX10_saysAll_14 : decode cX10_saysAll 14 = .ok (.iload_n 3, 1) := by decide +kernel
theorem dX10_saysAll_15 : decode cX10_saysAll 15 = .ok (.ishr, 1) := by decide +kernel
theorem dX10_saysAll_16 : decode cX10_saysAll 16 = .ok (.iconst 1, 1) := by decide +kernel
theorem dX10_saysAll_17 : decode cX10_saysAll 17 = .ok (.iand, 1) := by decide +kernel
theorem dX10_saysAll_18 : decode cX10_saysAll 18 = .ok (.ifCond .ne 7, 3) := by decide +kernel
theorem dX10_saysAll_21 : decode cX10_saysAll 21 = .ok (.iconst 1, 1) := by decide +kernel
theorem dX10_saysAll_22 : decode cX10_saysAll 22 = .ok (.goto 4, 3) := by decide +kernel
theorem dX10_saysAll_25 : decode cX10_saysAll 25 = .ok (.iconst 0, 1) := by decide +kernel
theorem dX10_saysAll_26 : decode cX10_saysAll 26 = .ok (.istore 4, 2) := by decide +kernel
theorem dX10_saysAll_28 : decode cX10_saysAll 28 = .ok (.iconst 0, 1) := by decide +kernel
theorem dX10_saysAll_29 : decode cX10_saysAll 29 = .ok (.istore 5, 2) := by decide +kernel
theorem dX10_saysAll_31 : decode cX10_saysAll 31 = .ok (.iload 5, 2) := by decide +kernel
theorem dX10_saysAll_33 : decode cX10_saysAll 33 = .ok (.aload_n 0, 1) := by decide +kernel
theorem dX10_saysAll_34 : decode cX10_saysAll 34 = .ok (.getfield 7, 3) := by decide +kernel
theorem dX10_saysAll_37 : decode cX10_saysAll 37 = .ok (.sipush 198, 3) := by decide +kernel
theorem dX10_saysAll_40 : decode cX10_saysAll 40 = .ok (.iload_n 3, 1) := by decide +kernel
theorem dX10_saysAll_41 : decode cX10_saysAll 41 = .ok (.iadd, 1) := by decide +kernel
theorem dX10_saysAll_42 : decode cX10_saysAll 42 = .ok (.iaload, 1) := by decide +kernel
theorem dX10_saysAll_43 : decode cX10_saysAll 43 = .ok (.if_icmp .ge 40, 3) := by decide +kernel
theorem dX10_saysAll_46 : decode cX10_saysAll 46 = .ok (.iload 4, 2) := by decide +kernel
theorem dX10_saysAll_48 : decode cX10_saysAll 48 = .ok (.ifCond .ne 35, 3) := by decide +kernel
theorem dX10_saysAll_51 : decode cX10_saysAll 51 = .ok (.aload_n 0, 1) := by decide +kernel
theorem dX10_saysAll_52 : decode cX10_saysAll 52 = .ok (.getfield 50, 3) := by decide +kernel
theorem dX10_saysAll_55 : decode cX10_saysAll 55 = .ok (.bipush 6, 2) := by decide +kernel
theorem dX10_saysAll_57 : decode cX10_saysAll 57 = .ok (.iload_n 3, 1) := by decide +kernel
theorem dX10_saysAll_58 : decode cX10_saysAll 58 = .ok (.imul, 1) := by decide +kernel
theorem dX10_saysAll_59 : decode cX10_saysAll 59 = .ok (.iload 5, 2) := by decide +kernel
theorem dX10_saysAll_61 : decode cX10_saysAll 61 = .ok (.iadd, 1) := by decide +kernel
theorem dX10_saysAll_62 : decode cX10_saysAll 62 = .ok (.iaload, 1) := by decide +kernel
theorem dX10_saysAll_63 : decode cX10_saysAll 63 = .ok (.iload_n 2, 1) := by decide +kernel
theorem dX10_saysAll_64 : decode cX10_saysAll 64 = .ok (.iconst (-1), 1) := by decide +kernel
theorem dX10_saysAll_65 : decode cX10_saysAll 65 = .ok (.ixor, 1) := by decide +kernel
theorem dX10_saysAll_66 : decode cX10_saysAll 66 = .ok (.iand, 1) := by decide +kernel
theorem dX10_saysAll_67 : decode cX10_saysAll 67 = .ok (.ifCond .ne 7, 3) := by decide +kernel
theorem dX10_saysAll_70 : decode cX10_saysAll 70 = .ok (.iconst 1, 1) := by decide +kernel
theorem dX10_saysAll_71 : decode cX10_saysAll 71 = .ok (.goto 4, 3) := by decide +kernel
theorem dX10_saysAll_74 : decode cX10_saysAll 74 = .ok (.iconst 0, 1) := by decide +kernel
theorem dX10_saysAll_75 : decode cX10_saysAll 75 = .ok (.istore 4, 2) := by decide +kernel
theorem dX10_saysAll_77 : decode cX10_saysAll 77 = .ok (.iinc 5 1, 3) := by decide +kernel
theorem dX10_saysAll_80 : decode cX10_saysAll 80 = .ok (.goto (-49), 3) := by decide +kernel
theorem dX10_saysAll_83 : decode cX10_saysAll 83 = .ok (.iload 4, 2) := by decide +kernel
theorem dX10_saysAll_85 : decode cX10_saysAll 85 = .ok (.ifCond .ne 5, 3) := by decide +kernel
theorem dX10_saysAll_88 : decode cX10_saysAll 88 = .ok (.iconst 0, 1) := by decide +kernel
theorem dX10_saysAll_89 : decode cX10_saysAll 89 = .ok (.ireturn, 1) := by decide +kernel
theorem dX10_saysAll_90 : decode cX10_saysAll 90 = .ok (.iinc 3 1, 3) := by decide +kernel
theorem dX10_saysAll_93 : decode cX10_saysAll 93 = .ok (.goto (-91), 3) := by decide +kernel
theorem dX10_saysAll_96 : decode cX10_saysAll 96 = .ok (.iconst 1, 1) := by decide +kernel
theorem dX10_saysAll_97 : decode cX10_saysAll 97 = .ok (.ireturn, 1) := by decide +kernel
theorem dX10_mostToGo_0 : decode cX10_mostToGo 0 = .ok (.aload_n 0, 1) := by decide +kernel
theorem dX10_mostToGo_1 : decode cX10_mostToGo 1 = .ok (.invokevirtual 385, 3) := by decide +kernel
theorem dX10_mostToGo_4 : decode cX10_mostToGo 4 = .ok (.istore_n 1, 1) := by decide +kernel
theorem dX10_mostToGo_5 : decode cX10_mostToGo 5 = .ok (.aload_n 0, 1) := by decide +kernel
theorem dX10_mostToGo_6 : decode cX10_mostToGo 6 = .ok (.iload_n 1, 1) := by decide +kernel
theorem dX10_mostToGo_7 : decode cX10_mostToGo 7 = .ok (.invokevirtual 388, 3) := by decide +kernel
theorem dX10_mostToGo_10 : decode cX10_mostToGo 10 = .ok (.istore_n 2, 1) := by decide +kernel
theorem dX10_mostToGo_11 : decode cX10_mostToGo 11 = .ok (.iconst 0, 1) := by decide +kernel
theorem dX10_mostToGo_12 : decode cX10_mostToGo 12 = .ok (.istore_n 3, 1) := by decide +kernel
theorem dX10_mostToGo_13 : decode cX10_mostToGo 13 = .ok (.iconst 0, 1) := by decide +kernel
theorem dX10_mostToGo_14 : decode cX10_mostToGo 14 = .ok (.istore 4, 2) := by decide +kernel
theorem dX10_mostToGo_16 : decode cX10_mostToGo 16 = .ok (.iload 4, 2) := by decide +kernel
theorem dX10_mostToGo_18 : decode cX10_mostToGo 18 = .ok (.iload_n 1, 1) := by decide +kernel
theorem dX10_mostToGo_19 : decode cX10_mostToGo 19 = .ok (.if_icmp .gt 47, 3) := by decide +kernel
theorem dX10_mostToGo_22 : decode cX10_mostToGo 22 = .ok (.iload 4, 2) := by decide +kernel
theorem dX10_mostToGo_24 : decode cX10_mostToGo 24 = .ok (.iload_n 1, 1) := by decide +kernel
theorem dX10_mostToGo_25 : decode cX10_mostToGo 25 = .ok (.iconst (-1), 1) := by decide +kernel
theorem dX10_mostToGo_26 : decode cX10_mostToGo 26 = .ok (.ixor, 1) := by decide +kernel
theorem dX10_mostToGo_27 : decode cX10_mostToGo 27 = .ok (.iand, 1) := by decide +kernel
theorem dX10_mostToGo_28 : decode cX10_mostToGo 28 = .ok (.ifCond .ne 32, 3) := by decide +kernel
theorem dX10_mostToGo_31 : decode cX10_mostToGo 31 = .ok (.iload 4, 2) := by decide +kernel
theorem dX10_mostToGo_33 : decode cX10_mostToGo 33 = .ok (.invokestatic 291, 3) := by decide +kernel
theorem dX10_mostToGo_36 : decode cX10_mostToGo 36 = .ok (.iload_n 3, 1) := by decide +kernel
theorem dX10_mostToGo_37 : decode cX10_mostToGo 37 = .ok (.invokestatic 291, 3) := by decide +kernel
theorem dX10_mostToGo_40 : decode cX10_mostToGo 40 = .ok (.if_icmp .le 20, 3) := by decide +kernel
theorem dX10_mostToGo_43 : decode cX10_mostToGo 43 = .ok (.aload_n 0, 1) := by decide +kernel
theorem dX10_mostToGo_44 : decode cX10_mostToGo 44 = .ok (.iload_n 2, 1) := by decide +kernel
theorem dX10_mostToGo_45 : decode cX10_mostToGo 45 = .ok (.iload_n 1, 1) := by decide +kernel
theorem dX10_mostToGo_46 : decode cX10_mostToGo 46 = .ok (.iload 4, 2) := by decide +kernel
theorem dX10_mostToGo_48 : decode cX10_mostToGo 48 = .ok (.iconst (-1), 1) := by decide +kernel
theorem dX10_mostToGo_49 : decode cX10_mostToGo 49 = .ok (.ixor, 1) := by decide +kernel
theorem dX10_mostToGo_50 : decode cX10_mostToGo 50 = .ok (.iand, 1) := by decide +kernel
theorem dX10_mostToGo_51 : decode cX10_mostToGo 51 = .ok (.invokevirtual 391, 3) := by decide +kernel
theorem dX10_mostToGo_54 : decode cX10_mostToGo 54 = .ok (.ifCond .eq 6, 3) := by decide +kernel
theorem dX10_mostToGo_57 : decode cX10_mostToGo 57 = .ok (.iload 4, 2) := by decide +kernel
theorem dX10_mostToGo_59 : decode cX10_mostToGo 59 = .ok (.istore_n 3, 1) := by decide +kernel
theorem dX10_mostToGo_60 : decode cX10_mostToGo 60 = .ok (.iinc 4 1, 3) := by decide +kernel
theorem dX10_mostToGo_63 : decode cX10_mostToGo 63 = .ok (.goto (-47), 3) := by decide +kernel
theorem dX10_mostToGo_66 : decode cX10_mostToGo 66 = .ok (.iload_n 3, 1) := by decide +kernel
theorem dX10_mostToGo_67 : decode cX10_mostToGo 67 = .ok (.ireturn, 1) := by decide +kernel
theorem dX10_fewestToAdd_0 : decode cX10_fewestToAdd 0 = .ok (.iconst (-1), 1) := by decide +kernel
theorem dX10_fewestToAdd_1 : decode cX10_fewestToAdd 1 = .ok (.istore 4, 2) := by decide +kernel
theorem dX10_fewestToAdd_3 : decode cX10_fewestToAdd 3 = .ok (.iconst 0, 1) := by decide +kernel
theorem dX10_fewestToAdd_4 : decode cX10_fewestToAdd 4 = .ok (.istore 5, 2) := by decide +kernel
theorem dX10_fewestToAdd_6 : decode cX10_fewestToAdd 6 = .ok (.iload 5, 2) := by decide +kernel
theorem dX10_fewestToAdd_8 : decode cX10_fewestToAdd 8 = .ok (.iload_n 3, 1) := by decide +kernel
theorem dX10_fewestToAdd_9 : decode cX10_fewestToAdd 9 = .ok (.if_icmp .gt 53, 3) := by decide +kernel
theorem dX10_fewestToAdd_12 : decode cX10_fewestToAdd 12 = .ok (.iload 5, 2) := by decide +kernel
theorem dX10_fewestToAdd_14 : decode cX10_fewestToAdd 14 = .ok (.iload_n 3, 1) := by decide +kernel
theorem dX10_fewestToAdd_15 : decode cX10_fewestToAdd 15 = .ok (.iconst (-1), 1) := by decide +kernel
theorem dX10_fewestToAdd_16 : decode cX10_fewestToAdd 16 = .ok (.ixor, 1) := by decide +kernel
theorem dX10_fewestToAdd_17 : decode cX10_fewestToAdd 17 = .ok (.iand, 1) := by decide +kernel
theorem dX10_fewestToAdd_18 : decode cX10_fewestToAdd 18 = .ok (.ifCond .ne 38, 3) := by decide +kernel
theorem dX10_fewestToAdd_21 : decode cX10_fewestToAdd 21 = .ok (.iload 4, 2) := by decide +kernel
theorem dX10_fewestToAdd_23 : decode cX10_fewestToAdd 23 = .ok (.iconst (-1), 1) := by decide +kernel
theorem dX10_fewestToAdd_24 : decode cX10_fewestToAdd 24 = .ok (.if_icmp .eq 16, 3) := by decide +kernel
theorem dX10_fewestToAdd_27 : decode cX10_fewestToAdd 27 = .ok (.iload 5, 2) := by decide +kernel
theorem dX10_fewestToAdd_29 : decode cX10_fewestToAdd 29 = .ok (.invokestatic 291, 3) := by decide +kernel
theorem dX10_fewestToAdd_32 : decode cX10_fewestToAdd 32 = .ok (.iload 4, 2) := by decide +kernel
theorem dX10_fewestToAdd_34 : decode cX10_fewestToAdd 34 = .ok (.invokestatic 291, 3) := by decide +kernel
theorem dX10_fewestToAdd_37 : decode cX10_fewestToAdd 37 = .ok (.if_icmp .ge 19, 3) := by decide +kernel
theorem dX10_fewestToAdd_40 : decode cX10_fewestToAdd 40 = .ok (.aload_n 0, 1) := by decide +kernel
theorem dX10_fewestToAdd_41 : decode cX10_fewestToAdd 41 = .ok (.iload_n 1, 1) := by decide +kernel
theorem dX10_fewestToAdd_42 : decode cX10_fewestToAdd 42 = .ok (.iload_n 2, 1) := by decide +kernel
theorem dX10_fewestToAdd_43 : decode cX10_fewestToAdd 43 = .ok (.iload 5, 2) := by decide +kernel
theorem dX10_fewestToAdd_45 : decode cX10_fewestToAdd 45 = .ok (.ior, 1) := by decide +kernel
theorem dX10_fewestToAdd_46 : decode cX10_fewestToAdd 46 = .ok (.invokevirtual 391, 3) := by decide +kernel
theorem dX10_fewestToAdd_49 : decode cX10_fewestToAdd 49 = .ok (.ifCond .eq 7, 3) := by decide +kernel
theorem dX10_fewestToAdd_52 : decode cX10_fewestToAdd 52 = .ok (.iload 5, 2) := by decide +kernel
theorem dX10_fewestToAdd_54 : decode cX10_fewestToAdd 54 = .ok (.istore 4, 2) := by decide +kernel
theorem dX10_fewestToAdd_56 : decode cX10_fewestToAdd 56 = .ok (.iinc 5 1, 3) := by decide +kernel
theorem dX10_fewestToAdd_59 : decode cX10_fewestToAdd 59 = .ok (.goto (-53), 3) := by decide +kernel
theorem dX10_fewestToAdd_62 : decode cX10_fewestToAdd 62 = .ok (.iload 4, 2) := by decide +kernel
theorem dX10_fewestToAdd_64 : decode cX10_fewestToAdd 64 = .ok (.ireturn, 1) := by decide +kernel
theorem dX10_go_0 : decode cX10_go 0 = .ok (.iload_n 1, 1) := by decide +kernel
theorem dX10_go_1 : decode cX10_go 1 = .ok (.iconst 0, 1) := by decide +kernel
theorem dX10_go_2 : decode cX10_go 2 = .ok (.iconst 3, 1) := by decide +kernel
theorem dX10_go_3 : decode cX10_go 3 = .ok (.invokestatic 59, 3) := by decide +kernel
theorem dX10_go_6 : decode cX10_go 6 = .ok (.ifCond .ne 5, 3) := by decide +kernel
theorem dX10_go_9 : decode cX10_go 9 = .ok (.iconst (-1), 1) := by decide +kernel
theorem dX10_go_10 : decode cX10_go 10 = .ok (.ireturn, 1) := by decide +kernel
theorem dX10_go_11 : decode cX10_go 11 = .ok (.aload_n 0, 1) := by decide +kernel
theorem dX10_go_12 : decode cX10_go 12 = .ok (.invokevirtual 394, 3) := by decide +kernel
theorem dX10_go_15 : decode cX10_go 15 = .ok (.iload_n 1, 1) := by decide +kernel
theorem dX10_go_16 : decode cX10_go 16 = .ok (.iconst 2, 1) := by decide +kernel
theorem dX10_go_17 : decode cX10_go 17 = .ok (.if_icmp .ge 10, 3) := by decide +kernel
theorem dX10_go_20 : decode cX10_go 20 = .ok (.aload_n 0, 1) := by decide +kernel
theorem dX10_go_21 : decode cX10_go 21 = .ok (.invokevirtual 397, 3) := by decide +kernel
theorem dX10_go_24 : decode cX10_go 24 = .ok (.goto 28, 3) := by decide +kernel
theorem dX10_go_27 : decode cX10_go 27 = .ok (.aload_n 0, 1) := by decide +kernel
theorem dX10_go_28 : decode cX10_go 28 = .ok (.iconst 1, 1) := by decide +kernel
theorem dX10_go_29 : decode cX10_go 29 = .ok (.aload_n 0, 1) := by decide +kernel
theorem dX10_go_30 : decode cX10_go 30 = .ok (.getfield 7, 3) := by decide +kernel
theorem dX10_go_33 : decode cX10_go 33 = .ok (.bipush 66, 2) := by decide +kernel
theorem dX10_go_35 : decode cX10_go 35 = .ok (.iaload, 1) := by decide +kernel
theorem dX10_go_36 : decode cX10_go 36 = .ok (.ishl, 1) := by decide +kernel
theorem dX10_go_37 : decode cX10_go 37 = .ok (.iconst 1, 1) := by decide +kernel
theorem dX10_go_38 : decode cX10_go 38 = .ok (.isub, 1) := by decide +kernel
theorem dX10_go_39 : decode cX10_go 39 = .ok (.aload_n 0, 1) := by decide +kernel
theorem dX10_go_40 : decode cX10_go 40 = .ok (.invokevirtual 385, 3) := by decide +kernel
theorem dX10_go_43 : decode cX10_go 43 = .ok (.aload_n 0, 1) := by decide +kernel
theorem dX10_go_44 : decode cX10_go 44 = .ok (.getfield 7, 3) := by decide +kernel
theorem dX10_go_47 : decode cX10_go 47 = .ok (.iconst 3, 1) := by decide +kernel
theorem dX10_go_48 : decode cX10_go 48 = .ok (.iaload, 1) := by decide +kernel
theorem dX10_go_49 : decode cX10_go 49 = .ok (.invokevirtual 400, 3) := by decide +kernel
theorem dX10_go_52 : decode cX10_go 52 = .ok (.istore_n 2, 1) := by decide +kernel
theorem dX10_go_53 : decode cX10_go 53 = .ok (.iload_n 1, 1) := by decide +kernel
theorem dX10_go_54 : decode cX10_go 54 = .ok (.iconst 2, 1) := by decide +kernel
theorem dX10_go_55 : decode cX10_go 55 = .ok (.irem, 1) := by decide +kernel
theorem dX10_go_56 : decode cX10_go 56 = .ok (.ifCond .ne 10, 3) := by decide +kernel
theorem dX10_go_59 : decode cX10_go 59 = .ok (.iload_n 2, 1) := by decide +kernel
theorem dX10_go_60 : decode cX10_go 60 = .ok (.invokestatic 291, 3) := by decide +kernel
theorem dX10_go_63 : decode cX10_go 63 = .ok (.goto 4, 3) := by decide +kernel
theorem dX10_go_66 : decode cX10_go 66 = .ok (.iload_n 2, 1) := by decide +kernel
theorem dX10_go_67 : decode cX10_go 67 = .ok (.ireturn, 1) := by decide +kernel
theorem dX10_school_0 : decode cX10_school 0 = .ok (.aload_n 0, 1) := by decide +kernel
theorem dX10_school_1 : decode cX10_school 1 = .ok (.iload_n 1, 1) := by decide +kernel
theorem dX10_school_2 : decode cX10_school 2 = .ok (.invokevirtual 75, 3) := by decide +kernel
theorem dX10_school_5 : decode cX10_school 5 = .ok (.ifCond .eq 12, 3) := by decide +kernel
theorem dX10_school_8 : decode cX10_school 8 = .ok (.iload_n 2, 1) := by decide +kernel
theorem dX10_school_9 : decode cX10_school 9 = .ok (.iconst 0, 1) := by decide +kernel
theorem dX10_school_10 : decode cX10_school 10 = .ok (.iconst 1, 1) := by decide +kernel
theorem dX10_school_11 : decode cX10_school 11 = .ok (.invokestatic 59, 3) := by decide +kernel
theorem dX10_school_14 : decode cX10_school 14 = .ok (.ifCond .ne 5, 3) := by decide +kernel
theorem dX10_school_17 : decode cX10_school 17 = .ok (.iconst (-1), 1) := by decide +kernel
theorem dX10_school_18 : decode cX10_school 18 = .ok (.ireturn, 1) := by decide +kernel
theorem dX10_school_19 : decode cX10_school 19 = .ok (.aload_n 0, 1) := by decide +kernel
theorem dX10_school_20 : decode cX10_school 20 = .ok (.invokevirtual 394, 3) := by decide +kernel
theorem dX10_school_23 : decode cX10_school 23 = .ok (.aload_n 0, 1) := by decide +kernel
theorem dX10_school_24 : decode cX10_school 24 = .ok (.aload_n 0, 1) := by decide +kernel
theorem dX10_school_25 : decode cX10_school 25 = .ok (.aload_n 0, 1) := by decide +kernel
theorem dX10_school_26 : decode cX10_school 26 = .ok (.invokevirtual 385, 3) := by decide +kernel
theorem dX10_school_29 : decode cX10_school 29 = .ok (.invokevirtual 388, 3) := by decide +kernel
theorem dX10_school_32 : decode cX10_school 32 = .ok (.aload_n 0, 1) := by decide +kernel
theorem dX10_school_33 : decode cX10_school 33 = .ok (.getfield 7, 3) := by decide +kernel
theorem dX10_school_36 : decode cX10_school 36 = .ok (.bipush 42, 2) := by decide +kernel
theorem dX10_school_38 : decode cX10_school 38 = .ok (.iload_n 1, 1) := by decide +kernel
theorem dX10_school_39 : decode cX10_school 39 = .ok (.iadd, 1) := by decide +kernel
theorem dX10_school_40 : decode cX10_school 40 = .ok (.iaload, 1) := by decide +kernel
theorem dX10_school_41 : decode cX10_school 41 = .ok (.aload_n 0, 1) := by decide +kernel
theorem dX10_school_42 : decode cX10_school 42 = .ok (.invokevirtual 385, 3) := by decide +kernel
theorem dX10_school_45 : decode cX10_school 45 = .ok (.aload_n 0, 1) := by decide +kernel
theorem dX10_school_46 : decode cX10_school 46 = .ok (.getfield 7, 3) := by decide +kernel
theorem dX10_school_49 : decode cX10_school 49 = .ok (.bipush 42, 2) := by decide +kernel
theorem dX10_school_51 : decode cX10_school 51 = .ok (.iload_n 1, 1) := by decide +kernel
theorem dX10_school_52 : decode cX10_school 52 = .ok (.iadd, 1) := by decide +kernel
theorem dX10_school_53 : decode cX10_school 53 = .ok (.iaload, 1) := by decide +kernel
theorem dX10_school_54 : decode cX10_school 54 = .ok (.iconst (-1), 1) := by decide +kernel
theorem dX10_school_55 : decode cX10_school 55 = .ok (.ixor, 1) := by decide +kernel
theorem dX10_school_56 : decode cX10_school 56 = .ok (.iand, 1) := by decide +kernel
theorem dX10_school_57 : decode cX10_school 57 = .ok (.invokevirtual 400, 3) := by decide +kernel
theorem dX10_school_60 : decode cX10_school 60 = .ok (.istore_n 3, 1) := by decide +kernel
theorem dX10_school_61 : decode cX10_school 61 = .ok (.iload_n 2, 1) := by decide +kernel
theorem dX10_school_62 : decode cX10_school 62 = .ok (.ifCond .ne 10, 3) := by decide +kernel
theorem dX10_school_65 : decode cX10_school 65 = .ok (.iload_n 3, 1) := by decide +kernel
theorem dX10_school_66 : decode cX10_school 66 = .ok (.invokestatic 291, 3) := by decide +kernel
theorem dX10_school_69 : decode cX10_school 69 = .ok (.goto 4, 3) := by decide +kernel
theorem dX10_school_72 : decode cX10_school 72 = .ok (.iload_n 3, 1) := by decide +kernel
theorem dX10_school_73 : decode cX10_school 73 = .ok (.ireturn, 1) := by decide +kernel
theorem dX10_boast_0 : decode cX10_boast 0 = .ok (.aload_n 0, 1) := by decide +kernel
theorem dX10_boast_1 : decode cX10_boast 1 = .ok (.iload_n 1, 1) := by decide +kernel
theorem dX10_boast_2 : decode cX10_boast 2 = .ok (.invokevirtual 75, 3) := by decide +kernel
theorem dX10_boast_5 : decode cX10_boast 5 = .ok (.ifCond .eq 12, 3) := by decide +kernel
theorem dX10_boast_8 : decode cX10_boast 8 = .ok (.iload_n 2, 1) := by decide +kernel
theorem dX10_boast_9 : decode cX10_boast 9 = .ok (.iconst 0, 1) := by decide +kernel
theorem dX10_boast_10 : decode cX10_boast 10 = .ok (.iconst 1, 1) := by decide +kernel
theorem dX10_boast_11 : decode cX10_boast 11 = .ok (.invokestatic 59, 3) := by decide +kernel
theorem dX10_boast_14 : decode cX10_boast 14 = .ok (.ifCond .ne 5, 3) := by decide +kernel
theorem dX10_boast_17 : decode cX10_boast 17 = .ok (.iconst (-1), 1) := by decide +kernel
theorem dX10_boast_18 : decode cX10_boast 18 = .ok (.ireturn, 1) := by decide +kernel
theorem dX10_boast_19 : decode cX10_boast 19 = .ok (.iconst (-1), 1) := by decide +kernel
theorem dX10_boast_20 : decode cX10_boast 20 = .ok (.istore_n 3, 1) := by decide +kernel
theorem dX10_boast_21 : decode cX10_boast 21 = .ok (.iconst (-1), 1) := by decide +kernel
theorem dX10_boast_22 : decode cX10_boast 22 = .ok (.istore 4, 2) := by decide +kernel
theorem dX10_boast_24 : decode cX10_boast 24 = .ok (.iconst 0, 1) := by decide +kernel
theorem dX10_boast_25 : decode cX10_boast 25 = .ok (.istore 5, 2) := by decide +kernel
theorem dX10_boast_27 : decode cX10_boast 27 = .ok (.iload 5, 2) := by decide +kernel
theorem dX10_boast_29 : decode cX10_boast 29 = .ok (.aload_n 0, 1) := by decide +kernel
theorem dX10_boast_30 : decode cX10_boast 30 = .ok (.getfield 7, 3) := by decide +kernel
theorem dX10_boast_33 : decode cX10_boast 33 = .ok (.bipush 66, 2) := by decide +kernel
theorem dX10_boast_35 : decode cX10_boast 35 = .ok (.iaload, 1) := by decide +kernel
theorem dX10_boast_36 : decode cX10_boast 36 = .ok (.if_icmp .ge 86, 3) := by decide +kernel
theorem dX10_boast_39 : decode cX10_boast 39 = .ok (.iconst 0, 1) := by decide +kernel
theorem dX10_boast_40 : decode cX10_boast 40 = .ok (.istore 6, 2) := by decide +kernel
theorem dX10_boast_42 : decode cX10_boast 42 = .ok (.iload 6, 2) := by decide +kernel
theorem dX10_boast_44 : decode cX10_boast 44 = .ok (.aload_n 0, 1) := by decide +kernel
theorem dX10_boast_45 : decode cX10_boast 45 = .ok (.getfield 7, 3) := by decide +kernel
theorem dX10_boast_48 : decode cX10_boast 48 = .ok (.sipush 198, 3) := by decide +kernel
theorem dX10_boast_51 : decode cX10_boast 51 = .ok (.iload 5, 2) := by decide +kernel
theorem dX10_boast_53 : decode cX10_boast 53 = .ok (.iadd, 1) := by decide +kernel
theorem dX10_boast_54 : decode cX10_boast 54 = .ok (.iaload, 1) := by decide +kernel
theorem dX10_boast_55 : decode cX10_boast 55 = .ok (.if_icmp .ge 61, 3) := by decide +kernel
theorem dX10_boast_58 : decode cX10_boast 58 = .ok (.aload_n 0, 1) := by decide +kernel
theorem dX10_boast_59 : decode cX10_boast 59 = .ok (.iload 5, 2) := by decide +kernel
theorem dX10_boast_61 : decode cX10_boast 61 = .ok (.iload 6, 2) := by decide +kernel
theorem dX10_boast_63 : decode cX10_boast 63 = .ok (.invokevirtual 376, 3) := by decide +kernel
theorem dX10_boast_66 : decode cX10_boast 66 = .ok (.aload_n 0, 1) := by decide +kernel
theorem dX10_boast_67 : decode cX10_boast 67 = .ok (.getfield 7, 3) := by decide +kernel
theorem dX10_boast_70 : decode cX10_boast 70 = .ok (.bipush 42, 2) := by decide +kernel
theorem dX10_boast_72 : decode cX10_boast 72 = .ok (.iload_n 1, 1) := by decide +kernel
theorem dX10_boast_73 : decode cX10_boast 73 = .ok (.iadd, 1) := by decide +kernel
theorem dX10_boast_74 : decode cX10_boast 74 = .ok (.iaload, 1) := by decide +kernel
theorem dX10_boast_75 : decode cX10_boast 75 = .ok (.iconst (-1), 1) := by decide +kernel
theorem dX10_boast_76 : decode cX10_boast 76 = .ok (.ixor, 1) := by decide +kernel
theorem dX10_boast_77 : decode cX10_boast 77 = .ok (.iand, 1) := by decide +kernel
theorem dX10_boast_78 : decode cX10_boast 78 = .ok (.ifCond .ne 32, 3) := by decide +kernel
theorem dX10_boast_81 : decode cX10_boast 81 = .ok (.aload_n 0, 1) := by decide +kernel
theorem dX10_boast_82 : decode cX10_boast 82 = .ok (.iload 5, 2) := by decide +kernel
theorem dX10_boast_84 : decode cX10_boast 84 = .ok (.iload 6, 2) := by decide +kernel
theorem dX10_boast_86 : decode cX10_boast 86 = .ok (.invokevirtual 382, 3) := by decide +kernel
theorem dX10_boast_89 : decode cX10_boast 89 = .ok (.iload 4, 2) := by decide +kernel
theorem dX10_boast_91 : decode cX10_boast 91 = .ok (.if_icmp .gt 6, 3) := by decide +kernel
theorem dX10_boast_94 : decode cX10_boast 94 = .ok (.goto 16, 3) := by decide +kernel
theorem dX10_boast_97 : decode cX10_boast 97 = .ok (.aload_n 0, 1) := by decide +kernel
theorem dX10_boast_98 : decode cX10_boast 98 = .ok (.iload 5, 2) := by decide +kernel
theorem dX10_boast_100 : decode cX10_boast 100 = .ok (.iload 6, 2) := by decide +kernel
theorem dX10_boast_102 : decode cX10_boast 102 = .ok (.invokevirtual 382, 3) := by decide +kernel
theorem dX10_boast_105 : decode cX10_boast 105 = .ok (.istore 4, 2) := by decide +kernel
theorem dX10_boast_107 : decode cX10_boast 107 = .ok (.iload 5, 2) := by decide +kernel
theorem dX10_boast_109 : decode cX10_boast 109 = .ok (.istore_n 3, 1) := by decide +kernel
theorem dX10_boast_110 : decode cX10_boast 110 = .ok (.iinc 6 1, 3) := by decide +kernel
theorem dX10_boast_113 : decode cX10_boast 113 = .ok (.goto (-71), 3) := by decide +kernel
theorem dX10_boast_116 : decode cX10_boast 116 = .ok (.iinc 5 1, 3) := by decide +kernel
theorem dX10_boast_119 : decode cX10_boast 119 = .ok (.goto (-92), 3) := by decide +kernel
theorem dX10_boast_122 : decode cX10_boast 122 = .ok (.iload_n 2, 1) := by decide +kernel
theorem dX10_boast_123 : decode cX10_boast 123 = .ok (.ifCond .ne 8, 3) := by decide +kernel
theorem dX10_boast_126 : decode cX10_boast 126 = .ok (.iload 4, 2) := by decide +kernel
theorem dX10_boast_128 : decode cX10_boast 128 = .ok (.goto 4, 3) := by decide +kernel
theorem dX10_boast_131 : decode cX10_boast 131 = .ok (.iload_n 3, 1) := by decide +kernel
theorem dX10_boast_132 : decode cX10_boast 132 = .ok (.ireturn, 1) := by decide +kernel
theorem dX10_lays_0 : decode cX10_lays 0 = .ok (.iconst 0, 1) := by decide +kernel
theorem dX10_lays_1 : decode cX10_lays 1 = .ok (.istore_n 1, 1) := by decide +kernel
theorem dX10_lays_2 : decode cX10_lays 2 = .ok (.iload_n 1, 1) := by decide +kernel
theorem dX10_lays_3 : decode cX10_lays 3 = .ok (.bipush 62, 2) := by decide +kernel
theorem dX10_lays_5 : decode cX10_lays 5 = .ok (.if_icmp .ge 21, 3) := by decide +kernel
theorem dX10_lays_8 : decode cX10_lays 8 = .ok (.aload_n 0, 1) := by decide +kernel
theorem dX10_lays_9 : decode cX10_lays 9 = .ok (.getfield 19, 3) := by decide +kernel
theorem dX10_lays_12 : decode cX10_lays 12 = .ok (.iload_n 1, 1) := by decide +kernel
theorem dX10_lays_13 : decode cX10_lays 13 = .ok (.aload_n 0, 1) := by decide +kernel
theorem dX10_lays_14 : decode cX10_lays 14 = .ok (.getfield 7, 3) := by decide +kernel
theorem dX10_lays_17 : decode cX10_lays 17 = .ok (.iload_n 1, 1) := by decide +kernel
theorem dX10_lays_18 : decode cX10_lays 18 = .ok (.iaload, 1) := by decide +kernel
theorem dX10_lays_19 : decode cX10_lays 19 = .ok (.iastore, 1) := by decide +kernel
theorem dX10_lays_20 : decode cX10_lays 20 = .ok (.iinc 1 1, 3) := by decide +kernel
theorem dX10_lays_23 : decode cX10_lays 23 = .ok (.goto (-21), 3) := by decide +kernel
theorem dX10_lays_26 : decode cX10_lays 26 = .ok (.aload_n 0, 1) := by decide +kernel
theorem dX10_lays_27 : decode cX10_lays 27 = .ok (.iconst 0, 1) := by decide +kernel
theorem dX10_lays_28 : decode cX10_lays 28 = .ok (.putfield 310, 3) := by decide +kernel
theorem dX10_lays_31 : decode cX10_lays 31 = .ok (.aload_n 0, 1) := by decide +kernel
theorem dX10_lays_32 : decode cX10_lays 32 = .ok (.iconst (-1), 1) := by decide +kernel
theorem dX10_lays_33 : decode cX10_lays 33 = .ok (.putfield 348, 3) := by decide +kernel
theorem dX10_lays_36 : decode cX10_lays 36 = .ok (.aload_n 0, 1) := by decide +kernel
theorem dX10_lays_37 : decode cX10_lays 37 = .ok (.iconst (-1), 1) := by decide +kernel
theorem dX10_lays_38 : decode cX10_lays 38 = .ok (.putfield 351, 3) := by decide +kernel
theorem dX10_lays_41 : decode cX10_lays 41 = .ok (.return_, 1) := by decide +kernel
theorem dX10_putsBack_0 : decode cX10_putsBack 0 = .ok (.iconst 0, 1) := by decide +kernel
theorem dX10_putsBack_1 : decode cX10_putsBack 1 = .ok (.istore_n 1, 1) := by decide +kernel
theorem dX10_putsBack_2 : decode cX10_putsBack 2 = .ok (.iload_n 1, 1) := by decide +kernel
theorem dX10_putsBack_3 : decode cX10_putsBack 3 = .ok (.bipush 62, 2) := by decide +kernel
theorem dX10_putsBack_5 : decode cX10_putsBack 5 = .ok (.if_icmp .ge 21, 3) := by decide +kernel
theorem dX10_putsBack_8 : decode cX10_putsBack 8 = .ok (.aload_n 0, 1) := by decide +kernel
theorem dX10_putsBack_9 : decode cX10_putsBack 9 = .ok (.getfield 7, 3) := by decide +kernel
theorem dX10_putsBack_12 : decode cX10_putsBack 12 = .ok (.iload_n 1, 1) := by decide +kernel
theorem dX10_putsBack_13 : decode cX10_putsBack 13 = .ok (.aload_n 0, 1) := by decide +kernel
theorem dX10_putsBack_14 : decode cX10_putsBack 14 = .ok (.getfield 19, 3) := by decide +kernel
theorem dX10_putsBack_17 : decode cX10_putsBack 17 = .ok (.iload_n 1, 1) := by decide +kernel
theorem dX10_putsBack_18 : decode cX10_putsBack 18 = .ok (.iaload, 1) := by decide +kernel
theorem dX10_putsBack_19 : decode cX10_putsBack 19 = .ok (.iastore, 1) := by decide +kernel
theorem dX10_putsBack_20 : decode cX10_putsBack 20 = .ok (.iinc 1 1, 3) := by decide +kernel
theorem dX10_putsBack_23 : decode cX10_putsBack 23 = .ok (.goto (-21), 3) := by decide +kernel
theorem dX10_putsBack_26 : decode cX10_putsBack 26 = .ok (.return_, 1) := by decide +kernel
theorem dX10_goes_0 : decode cX10_goes 0 = .ok (.iload_n 1, 1) := by decide +kernel
theorem dX10_goes_1 : decode cX10_goes 1 = .ok (.iconst 1, 1) := by decide +kernel
theorem dX10_goes_2 : decode cX10_goes 2 = .ok (.sipush 400, 3) := by decide +kernel
theorem dX10_goes_5 : decode cX10_goes 5 = .ok (.invokestatic 59, 3) := by decide +kernel
theorem dX10_goes_8 : decode cX10_goes 8 = .ok (.ifCond .eq 12, 3) := by decide +kernel
theorem dX10_goes_11 : decode cX10_goes 11 = .ok (.iload_n 2, 1) := by decide +kernel
theorem dX10_goes_12 : decode cX10_goes 12 = .ok (.iconst 0, 1) := by decide +kernel
theorem dX10_goes_13 : decode cX10_goes 13 = .ok (.iconst 2, 1) := by decide +kernel
theorem dX10_goes_14 : decode cX10_goes 14 = .ok (.invokestatic 59, 3) := by decide +kernel
theorem dX10_goes_17 : decode cX10_goes 17 = .ok (.ifCond .ne 6, 3) := by decide +kernel
theorem dX10_goes_20 : decode cX10_goes 20 = .ok (.bipush (-2), 2) := by decide +kernel
theorem dX10_goes_22 : decode cX10_goes 22 = .ok (.ireturn, 1) := by decide +kernel
theorem dX10_goes_23 : decode cX10_goes 23 = .ok (.aload_n 0, 1) := by decide +kernel
theorem dX10_goes_24 : decode cX10_goes 24 = .ok (.invokevirtual 403, 3) := by decide +kernel
theorem dX10_goes_27 : decode cX10_goes 27 = .ok (.iconst 0, 1) := by decide +kernel
theorem dX10_goes_28 : decode cX10_goes 28 = .ok (.istore_n 3, 1) := by decide +kernel
theorem dX10_goes_29 : decode cX10_goes 29 = .ok (.iload_n 3, 1) := by decide +kernel
theorem dX10_goes_30 : decode cX10_goes 30 = .ok (.iload_n 1, 1) := by decide +kernel
theorem dX10_goes_31 : decode cX10_goes 31 = .ok (.if_icmp .ge 18, 3) := by decide +kernel
theorem dX10_goes_34 : decode cX10_goes 34 = .ok (.aload_n 0, 1) := by decide +kernel
theorem dX10_goes_35 : decode cX10_goes 35 = .ok (.invokevirtual 370, 3) := by decide +kernel
theorem dX10_goes_38 : decode cX10_goes 38 = .ok (.pop, 1) := by decide +kernel
theorem dX10_goes_39 : decode cX10_goes 39 = .ok (.aload_n 0, 1) := by decide +kernel
theorem dX10_goes_40 : decode cX10_goes 40 = .ok (.invokevirtual 373, 3) := by decide +kernel
theorem dX10_goes_43 : decode cX10_goes 43 = .ok (.iinc 3 1, 3) := by decide +kernel
theorem dX10_goes_46 : decode cX10_goes 46 = .ok (.goto (-17), 3) := by decide +kernel
theorem dX10_goes_49 : decode cX10_goes 49 = .ok (.aload_n 0, 1) := by decide +kernel
theorem dX10_goes_50 : decode cX10_goes 50 = .ok (.getfield 7, 3) := by decide +kernel
theorem dX10_goes_53 : decode cX10_goes 53 = .ok (.iconst 3, 1) := by decide +kernel
theorem dX10_goes_54 : decode cX10_goes 54 = .ok (.iaload, 1) := by decide +kernel
theorem dX10_goes_55 : decode cX10_goes 55 = .ok (.invokestatic 291, 3) := by decide +kernel
theorem dX10_goes_58 : decode cX10_goes 58 = .ok (.istore_n 3, 1) := by decide +kernel
theorem dX10_goes_59 : decode cX10_goes 59 = .ok (.aload_n 0, 1) := by decide +kernel
theorem dX10_goes_60 : decode cX10_goes 60 = .ok (.invokevirtual 406, 3) := by decide +kernel
theorem dX10_goes_63 : decode cX10_goes 63 = .ok (.iload_n 2, 1) := by decide +kernel
theorem dX10_goes_64 : decode cX10_goes 64 = .ok (.ifCond .ne 7, 3) := by decide +kernel
theorem dX10_goes_67 : decode cX10_goes 67 = .ok (.iload_n 3, 1) := by decide +kernel
theorem dX10_goes_68 : decode cX10_goes 68 = .ok (.goto 19, 3) := by decide +kernel
theorem dX10_goes_71 : decode cX10_goes 71 = .ok (.iload_n 2, 1) := by decide +kernel
theorem dX10_goes_72 : decode cX10_goes 72 = .ok (.iconst 1, 1) := by decide +kernel
theorem dX10_goes_73 : decode cX10_goes 73 = .ok (.if_icmp .ne 10, 3) := by decide +kernel
theorem dX10_goes_76 : decode cX10_goes 76 = .ok (.aload_n 0, 1) := by decide +kernel
theorem dX10_goes_77 : decode cX10_goes 77 = .ok (.getfield 348, 3) := by decide +kernel
theorem dX10_goes_80 : decode cX10_goes 80 = .ok (.goto 7, 3) := by decide +kernel
theorem dX10_goes_83 : decode cX10_goes 83 = .ok (.aload_n 0, 1) := by decide +kernel
theorem dX10_goes_84 : decode cX10_goes 84 = .ok (.getfield 351, 3) := by decide +kernel
theorem dX10_goes_87 : decode cX10_goes 87 = .ok (.ireturn, 1) := by decide +kernel
theorem dX10_misses_0 : decode cX10_misses 0 = .ok (.iload_n 1, 1) := by decide +kernel
theorem dX10_misses_1 : decode cX10_misses 1 = .ok (.iconst 0, 1) := by decide +kernel
theorem dX10_misses_2 : decode cX10_misses 2 = .ok (.iconst 1, 1) := by decide +kernel
theorem dX10_misses_3 : decode cX10_misses 3 = .ok (.invokestatic 59, 3) := by decide +kernel
theorem dX10_misses_6 : decode cX10_misses 6 = .ok (.ifCond .ne 5, 3) := by decide +kernel
theorem dX10_misses_9 : decode cX10_misses 9 = .ok (.iconst (-1), 1) := by decide +kernel
theorem dX10_misses_10 : decode cX10_misses 10 = .ok (.ireturn, 1) := by decide +kernel
theorem dX10_misses_11 : decode cX10_misses 11 = .ok (.iconst (-1), 1) := by decide +kernel
theorem dX10_misses_12 : decode cX10_misses 12 = .ok (.istore_n 2, 1) := by decide +kernel
theorem dX10_misses_13 : decode cX10_misses 13 = .ok (.iconst 0, 1) := by decide +kernel
theorem dX10_misses_14 : decode cX10_misses 14 = .ok (.istore_n 3, 1) := by decide +kernel
theorem dX10_misses_15 : decode cX10_misses 15 = .ok (.iload_n 3, 1) := by decide +kernel
theorem dX10_misses_16 : decode cX10_misses 16 = .ok (.aload_n 0, 1) := by decide +kernel
theorem dX10_misses_17 : decode cX10_misses 17 = .ok (.getfield 7, 3) := by decide +kernel
theorem dX10_misses_20 : decode cX10_misses 20 = .ok (.bipush 68, 2) := by decide +kernel
theorem dX10_misses_22 : decode cX10_misses 22 = .ok (.iaload, 1) := by decide +kernel
theorem dX10_misses_23 : decode cX10_misses 23 = .ok (.if_icmp .ge 28, 3) := by decide +kernel
theorem dX10_misses_26 : decode cX10_misses 26 = .ok (.iload_n 2, 1) := by decide +kernel
theorem dX10_misses_27 : decode cX10_misses 27 = .ok (.aload_n 0, 1) := by decide +kernel
theorem dX10_misses_28 : decode cX10_misses 28 = .ok (.getfield 7, 3) := by decide +kernel
theorem dX10_misses_31 : decode cX10_misses 31 = .ok (.sipush 692, 3) := by decide +kernel
theorem dX10_misses_34 : decode cX10_misses 34 = .ok (.iconst 3, 1) := by decide +kernel
theorem dX10_misses_35 : decode cX10_misses 35 = .ok (.iload_n 3, 1) := by decide +kernel
theorem dX10_misses_36 : decode cX10_misses 36 = .ok (.imul, 1) := by decide +kernel
theorem dX10_misses_37 : decode cX10_misses 37 = .ok (.iadd, 1) := by decide +kernel
theorem dX10_misses_38 : decode cX10_misses 38 = .ok (.iconst 1, 1) := by decide +kernel
theorem dX10_misses_39 : decode cX10_misses 39 = .ok (.iadd, 1) := by decide +kernel
theorem dX10_misses_40 : decode cX10_misses 40 = .ok (.iaload, 1) := by decide +kernel
theorem dX10_misses_41 : decode cX10_misses 41 = .ok (.invokestatic 304, 3) := by decide +kernel
theorem dX10_misses_44 : decode cX10_misses 44 = .ok (.istore_n 2, 1) := by decide +kernel
theorem dX10_misses_45 : decode cX10_misses 45 = .ok (.iinc 3 1, 3) := by decide +kernel
theorem dX10_misses_48 : decode cX10_misses 48 = .ok (.goto (-33), 3) := by decide +kernel
theorem dX10_misses_51 : decode cX10_misses 51 = .ok (.iconst (-1), 1) := by decide +kernel
theorem dX10_misses_52 : decode cX10_misses 52 = .ok (.istore_n 3, 1) := by decide +kernel
theorem dX10_misses_53 : decode cX10_misses 53 = .ok (.iconst 0, 1) := by decide +kernel
theorem dX10_misses_54 : decode cX10_misses 54 = .ok (.istore 4, 2) := by decide +kernel
theorem dX10_misses_56 : decode cX10_misses 56 = .ok (.aload_n 0, 1) := by decide +kernel
theorem dX10_misses_57 : decode cX10_misses 57 = .ok (.invokevirtual 403, 3) := by decide +kernel
theorem dX10_misses_60 : decode cX10_misses 60 = .ok (.aload_n 0, 1) := by decide +kernel
theorem dX10_misses_61 : decode cX10_misses 61 = .ok (.getfield 7, 3) := by decide +kernel
theorem dX10_misses_64 : decode cX10_misses 64 = .ok (.iconst 0, 1) := by decide +kernel
theorem dX10_misses_65 : decode cX10_misses 65 = .ok (.iaload, 1) := by decide +kernel
theorem dX10_misses_66 : decode cX10_misses 66 = .ok (.iload_n 2, 1) := by decide +kernel
theorem dX10_misses_67 : decode cX10_misses 67 = .ok (.if_icmp .gt 124, 3) := by decide +kernel
theorem dX10_misses_70 : decode cX10_misses 70 = .ok (.aload_n 0, 1) := by decide +kernel
theorem dX10_misses_71 : decode cX10_misses 71 = .ok (.invokevirtual 370, 3) := by decide +kernel
theorem dX10_misses_74 : decode cX10_misses 74 = .ok (.pop, 1) := by decide +kernel
theorem dX10_misses_75 : decode cX10_misses 75 = .ok (.iconst 0, 1) := by decide +kernel
theorem dX10_misses_76 : decode cX10_misses 76 = .ok (.istore 5, 2) := by decide +kernel
theorem dX10_misses_78 : decode cX10_misses 78 = .ok (.iload 5, 2) := by decide +kernel
theorem dX10_misses_80 : decode cX10_misses 80 = .ok (.aload_n 0, 1) := by decide +kernel
theorem dX10_misses_81 : decode cX10_misses 81 = .ok (.getfield 7, 3) := by decide +kernel
theorem dX10_misses_84 : decode cX10_misses 84 = .ok (.bipush 68, 2) := by decide +kernel
theorem dX10_misses_86 : decode cX10_misses 86 = .ok (.iaload, 1) := by decide +kernel
theorem dX10_misses_87 : decode cX10_misses 87 = .ok (.if_icmp .ge 97, 3) := by decide +kernel
theorem dX10_misses_90 : decode cX10_misses 90 = .ok (.sipush 692, 3) := by decide +kernel
theorem dX10_misses_93 : decode cX10_misses 93 = .ok (.iconst 3, 1) := by decide +kernel
theorem dX10_misses_94 : decode cX10_misses 94 = .ok (.iload 5, 2) := by decide +kernel
theorem dX10_misses_96 : decode cX10_misses 96 = .ok (.imul, 1) := by decide +kernel
theorem dX10_misses_97 : decode cX10_misses 97 = .ok (.iadd, 1) := by decide +kernel
theorem dX10_misses_98 : decode cX10_misses 98 = .ok (.istore 6, 2) := by decide +kernel
theorem dX10_misses_100 : decode cX10_misses 100 = .ok (.aload_n 0, 1) := by decide +kernel
theorem dX10_misses_101 : decode cX10_misses 101 = .ok (.getfield 7, 3) := by decide +kernel
theorem dX10_misses_104 : decode cX10_misses 104 = .ok (.iload 6, 2) := by decide +kernel
theorem dX10_misses_106 : decode cX10_misses 106 = .ok (.iconst 1, 1) := by decide +kernel
theorem dX10_misses_107 : decode cX10_misses 107 = .ok (.iadd, 1) := by decide +kernel
theorem dX10_misses_108 : decode cX10_misses 108 = .ok (.iaload, 1) := by decide +kernel
theorem dX10_misses_109 : decode cX10_misses 109 = .ok (.aload_n 0, 1) := by decide +kernel
theorem dX10_misses_110 : decode cX10_misses 110 = .ok (.getfield 7, 3) := by decide +kernel
theorem dX10_misses_113 : decode cX10_misses 113 = .ok (.iconst 0, 1) := by decide +kernel
theorem dX10_misses_114 : decode cX10_misses 114 = .ok (.iaload, 1) := by decide +kernel
theorem dX10_misses_115 : decode cX10_misses 115 = .ok (.if_icmp .eq 6, 3) := by decide +kernel
theorem dX10_misses_118 : decode cX10_misses 118 = .ok (.goto 60, 3) := by decide +kernel
theorem dX10_misses_121 : decode cX10_misses 121 = .ok (.aload_n 0, 1) := by decide +kernel
theorem dX10_misses_122 : decode cX10_misses 122 = .ok (.aload_n 0, 1) := by decide +kernel
theorem dX10_misses_123 : decode cX10_misses 123 = .ok (.getfield 7, 3) := by decide +kernel
theorem dX10_misses_126 : decode cX10_misses 126 = .ok (.iload 6, 2) := by decide +kernel
theorem dX10_misses_128 : decode cX10_misses 128 = .ok (.iaload, 1) := by decide +kernel
theorem dX10_misses_129 : decode cX10_misses 129 = .ok (.aload_n 0, 1) := by decide +kernel
theorem dX10_misses_130 : decode cX10_misses 130 = .ok (.invokevirtual 385, 3) := by decide +kernel
theorem dX10_misses_133 : decode cX10_misses 133 = .ok (.invokevirtual 379, 3) := by decide +kernel
theorem dX10_misses_136 : decode cX10_misses 136 = .ok (.istore 7, 2) := by decide +kernel
theorem dX10_misses_138 : decode cX10_misses 138 = .ok (.iload 4, 2) := by decide +kernel
theorem dX10_misses_140 : decode cX10_misses 140 = .ok (.iload 7, 2) := by decide +kernel
theorem dX10_misses_142 : decode cX10_misses 142 = .ok (.ifCond .eq 15, 3) := by decide +kernel
theorem dX10_misses_145 : decode cX10_misses 145 = .ok (.aload_n 0, 1) := by decide +kernel
theorem dX10_misses_146 : decode cX10_misses 146 = .ok (.getfield 7, 3) := by decide +kernel
theorem dX10_misses_149 : decode cX10_misses 149 = .ok (.iload 6, 2) := by decide +kernel
theorem dX10_misses_151 : decode cX10_misses 151 = .ok (.iconst 2, 1) := by decide +kernel
theorem dX10_misses_152 : decode cX10_misses 152 = .ok (.iadd, 1) := by decide +kernel
theorem dX10_misses_153 : decode cX10_misses 153 = .ok (.iaload, 1) := by decide +kernel
theorem dX10_misses_154 : decode cX10_misses 154 = .ok (.goto 4, 3) := by decide +kernel
theorem dX10_misses_157 : decode cX10_misses 157 = .ok (.iconst 0, 1) := by decide +kernel
theorem dX10_misses_158 : decode cX10_misses 158 = .ok (.iadd, 1) := by decide +kernel
theorem dX10_misses_159 : decode cX10_misses 159 = .ok (.istore 4, 2) := by decide +kernel
theorem dX10_misses_161 : decode cX10_misses 161 = .ok (.iload 7, 2) := by decide +kernel
theorem dX10_misses_163 : decode cX10_misses 163 = .ok (.ifCond .ne 8, 3) := by decide +kernel
theorem dX10_misses_166 : decode cX10_misses 166 = .ok (.iload_n 3, 1) := by decide +kernel
theorem dX10_misses_167 : decode cX10_misses 167 = .ok (.iconst (-1), 1) := by decide +kernel
theorem dX10_misses_168 : decode cX10_misses 168 = .ok (.if_icmp .eq 7, 3) := by decide +kernel
theorem dX10_misses_171 : decode cX10_misses 171 = .ok (.iload_n 3, 1) := by decide +kernel
theorem dX10_misses_172 : decode cX10_misses 172 = .ok (.goto 5, 3) := by decide +kernel
theorem dX10_misses_175 : decode cX10_misses 175 = .ok (.iload 5, 2) := by decide +kernel
theorem dX10_misses_177 : decode cX10_misses 177 = .ok (.istore_n 3, 1) := by decide +kernel
theorem dX10_misses_178 : decode cX10_misses 178 = .ok (.iinc 5 1, 3) := by decide +kernel
theorem dX10_misses_181 : decode cX10_misses 181 = .ok (.goto (-103), 3) := by decide +kernel
theorem dX10_misses_184 : decode cX10_misses 184 = .ok (.aload_n 0, 1) := by decide +kernel
theorem dX10_misses_185 : decode cX10_misses 185 = .ok (.invokevirtual 373, 3) := by decide +kernel
theorem dX10_misses_188 : decode cX10_misses 188 = .ok (.goto (-128), 3) := by decide +kernel
theorem dX10_misses_191 : decode cX10_misses 191 = .ok (.aload_n 0, 1) := by decide +kernel
theorem dX10_misses_192 : decode cX10_misses 192 = .ok (.invokevirtual 406, 3) := by decide +kernel
theorem dX10_misses_195 : decode cX10_misses 195 = .ok (.iload_n 1, 1) := by decide +kernel
theorem dX10_misses_196 : decode cX10_misses 196 = .ok (.ifCond .ne 7, 3) := by decide +kernel
theorem dX10_misses_199 : decode cX10_misses 199 = .ok (.iload_n 3, 1) := by decide +kernel
theorem dX10_misses_200 : decode cX10_misses 200 = .ok (.goto 5, 3) := by decide +kernel
theorem dX10_misses_203 : decode cX10_misses 203 = .ok (.iload 4, 2) := by decide +kernel
theorem dX10_misses_205 : decode cX10_misses 205 = .ok (.ireturn, 1) := by decide +kernel
theorem dX10_tonguesOf_0 : decode cX10_tonguesOf 0 = .ok (.iconst 0, 1) := by decide +kernel
theorem dX10_tonguesOf_1 : decode cX10_tonguesOf 1 = .ok (.istore_n 2, 1) := by decide +kernel
theorem dX10_tonguesOf_2 : decode cX10_tonguesOf 2 = .ok (.iconst 0, 1) := by decide +kernel
theorem dX10_tonguesOf_3 : decode cX10_tonguesOf 3 = .ok (.istore_n 3, 1) := by decide +kernel
theorem dX10_tonguesOf_4 : decode cX10_tonguesOf 4 = .ok (.iload_n 3, 1) := by decide +kernel
theorem dX10_tonguesOf_5 : decode cX10_tonguesOf 5 = .ok (.aload_n 0, 1) := by decide +kernel
theorem dX10_tonguesOf_6 : decode cX10_tonguesOf 6 = .ok (.getfield 7, 3) := by decide +kernel
theorem dX10_tonguesOf_9 : decode cX10_tonguesOf 9 = .ok (.bipush 63, 2) := by decide +kernel
theorem dX10_tonguesOf_11 : decode cX10_tonguesOf 11 = .ok (.iaload, 1) := by decide +kernel
theorem dX10_tonguesOf_12 : decode cX10_tonguesOf 12 = .ok (.if_icmp .ge 34, 3) := by decide +kernel
theorem dX10_tonguesOf_15 : decode cX10_tonguesOf 15 = .ok (.iload_n 2, 1) := by decide +kernel
theorem dX10_tonguesOf_16 : decode cX10_tonguesOf 16 = .ok (.iload_n 1, 1) := by decide +kernel
theorem dX10_tonguesOf_17 : decode cX10_tonguesOf 17 = .ok (.iload_n 3, 1) := by decide +kernel
theorem dX10_tonguesOf_18 : decode cX10_tonguesOf 18 = .ok (.ishr, 1) := by decide +kernel
theorem dX10_tonguesOf_19 : decode cX10_tonguesOf 19 = .ok (.iconst 1, 1) := by decide +kernel
theorem dX10_tonguesOf_20 : decode cX10_tonguesOf 20 = .ok (.iand, 1) := by decide +kernel
theorem dX10_tonguesOf_21 : decode cX10_tonguesOf 21 = .ok (.iconst 1, 1) := by decide +kernel
theorem dX10_tonguesOf_22 : decode cX10_tonguesOf 22 = .ok (.if_icmp .ne 15, 3) := by decide +kernel
theorem dX10_tonguesOf_25 : decode cX10_tonguesOf 25 = .ok (.aload_n 0, 1) := by decide +kernel
theorem dX10_tonguesOf_26 : decode cX10_tonguesOf 26 = .ok (.getfield 7, 3) := by decide +kernel
theorem dX10_tonguesOf_29 : decode cX10_tonguesOf 29 = .ok (.bipush 42, 2) := by decide +kernel
theorem dX10_tonguesOf_31 : decode cX10_tonguesOf 31 = .ok (.iload_n 3, 1) := by decide +kernel
theorem dX10_tonguesOf_32 : decode cX10_tonguesOf 32 = .ok (.iadd, 1) := by decide +kernel
theorem dX10_tonguesOf_33 : decode cX10_tonguesOf 33 = .ok (.iaload, 1) := by decide +kernel
theorem dX10_tonguesOf_34 : decode cX10_tonguesOf 34 = .ok (.goto 4, 3) := by decide +kernel
theorem dX10_tonguesOf_37 : decode cX10_tonguesOf 37 = .ok (.iconst 0, 1) := by decide +kernel
theorem dX10_tonguesOf_38 : decode cX10_tonguesOf 38 = .ok (.ior, 1) := by decide +kernel
theorem dX10_tonguesOf_39 : decode cX10_tonguesOf 39 = .ok (.istore_n 2, 1) := by decide +kernel
theorem dX10_tonguesOf_40 : decode cX10_tonguesOf 40 = .ok (.iinc 3 1, 3) := by decide +kernel
theorem dX10_tonguesOf_43 : decode cX10_tonguesOf 43 = .ok (.goto (-39), 3) := by decide +kernel
theorem dX10_tonguesOf_46 : decode cX10_tonguesOf 46 = .ok (.iload_n 2, 1) := by decide +kernel
theorem dX10_tonguesOf_47 : decode cX10_tonguesOf 47 = .ok (.ireturn, 1) := by decide +kernel
theorem dX10_aloneIn_0 : decode cX10_aloneIn 0 = .ok (.aload_n 0, 1) := by decide +kernel
theorem dX10_aloneIn_1 : decode cX10_aloneIn 1 = .ok (.getfield 7, 3) := by decide +kernel
theorem dX10_aloneIn_4 : decode cX10_aloneIn 4 = .ok (.bipush 42, 2) := by decide +kernel
theorem dX10_aloneIn_6 : decode cX10_aloneIn 6 = .ok (.iload_n 1, 1) := by decide +kernel
theorem dX10_aloneIn_7 : decode cX10_aloneIn 7 = .ok (.iadd, 1) := by decide +kernel
theorem dX10_aloneIn_8 : decode cX10_aloneIn 8 = .ok (.iaload, 1) := by decide +kernel
theorem dX10_aloneIn_9 : decode cX10_aloneIn 9 = .ok (.aload_n 0, 1) := by decide +kernel
theorem dX10_aloneIn_10 : decode cX10_aloneIn 10 = .ok (.iconst 1, 1) := by decide +kernel
theorem dX10_aloneIn_11 : decode cX10_aloneIn 11 = .ok (.aload_n 0, 1) := by decide +kernel
theorem dX10_aloneIn_12 : decode cX10_aloneIn 12 = .ok (.getfield 7, 3) := by decide +kernel
theorem dX10_aloneIn_15 : decode cX10_aloneIn 15 = .ok (.bipush 63, 2) := by decide +kernel
theorem dX10_aloneIn_17 : decode cX10_aloneIn 17 = .ok (.iaload, 1) := by decide +kernel
theorem dX10_aloneIn_18 : decode cX10_aloneIn 18 = .ok (.ishl, 1) := by decide +kernel
theorem dX10_aloneIn_19 : decode cX10_aloneIn 19 = .ok (.iconst 1, 1) := by decide +kernel
theorem dX10_aloneIn_20 : decode cX10_aloneIn 20 = .ok (.isub, 1) := by decide +kernel
theorem dX10_aloneIn_21 : decode cX10_aloneIn 21 = .ok (.iconst 1, 1) := by decide +kernel
theorem dX10_aloneIn_22 : decode cX10_aloneIn 22 = .ok (.iload_n 1, 1) := by decide +kernel
theorem dX10_aloneIn_23 : decode cX10_aloneIn 23 = .ok (.ishl, 1) := by decide +kernel
theorem dX10_aloneIn_24 : decode cX10_aloneIn 24 = .ok (.iconst (-1), 1) := by decide +kernel
theorem dX10_aloneIn_25 : decode cX10_aloneIn 25 = .ok (.ixor, 1) := by decide +kernel
theorem dX10_aloneIn_26 : decode cX10_aloneIn 26 = .ok (.iand, 1) := by decide +kernel
theorem dX10_aloneIn_27 : decode cX10_aloneIn 27 = .ok (.invokevirtual 409, 3) := by decide +kernel
theorem dX10_aloneIn_30 : decode cX10_aloneIn 30 = .ok (.iconst (-1), 1) := by decide +kernel
theorem dX10_aloneIn_31 : decode cX10_aloneIn 31 = .ok (.ixor, 1) := by decide +kernel
theorem dX10_aloneIn_32 : decode cX10_aloneIn 32 = .ok (.iand, 1) := by decide +kernel
theorem dX10_aloneIn_33 : decode cX10_aloneIn 33 = .ok (.invokestatic 291, 3) := by decide +kernel
theorem dX10_aloneIn_36 : decode cX10_aloneIn 36 = .ok (.ireturn, 1) := by decide +kernel
theorem dX10_costs_0 : decode cX10_costs 0 = .ok (.aload_n 0, 1) := by decide +kernel
theorem dX10_costs_1 : decode cX10_costs 1 = .ok (.iload_n 1, 1) := by decide +kernel
theorem dX10_costs_2 : decode cX10_costs 2 = .ok (.invokevirtual 75, 3) := by decide +kernel
theorem dX10_costs_5 : decode cX10_costs 5 = .ok (.ifCond .eq 11, 3) := by decide +kernel
theorem dX10_costs_8 : decode cX10_costs 8 = .ok (.aload_n 0, 1) := by decide +kernel
theorem dX10_costs_9 : decode cX10_costs 9 = .ok (.iload_n 1, 1) := by decide +kernel
theorem dX10_costs_10 : decode cX10_costs 10 = .ok (.invokevirtual 412, 3) := by decide +kernel
theorem dX10_costs_13 : decode cX10_costs 13 = .ok (.goto 4, 3) := by decide +kernel
theorem dX10_costs_16 : decode cX10_costs 16 = .ok (.iconst (-1), 1) := by decide +kernel
theorem dX10_costs_17 : decode cX10_costs 17 = .ok (.ireturn, 1) := by decide +kernel
theorem dX10_keepers_0 : decode cX10_keepers 0 = .ok (.iload_n 1, 1) := by decide +kernel
theorem dX10_keepers_1 : decode cX10_keepers 1 = .ok (.iconst 0, 1) := by decide +kernel
theorem dX10_keepers_2 : decode cX10_keepers 2 = .ok (.iconst 2, 1) := by decide +kernel
theorem dX10_keepers_3 : decode cX10_keepers 3 = .ok (.invokestatic 59, 3) := by decide +kernel
theorem dX10_keepers_6 : decode cX10_keepers 6 = .ok (.ifCond .ne 5, 3) := by decide +kernel
theorem dX10_keepers_9 : decode cX10_keepers 9 = .ok (.iconst (-1), 1) := by decide +kernel
theorem dX10_keepers_10 : decode cX10_keepers 10 = .ok (.ireturn, 1) := by decide +kernel
theorem dX10_keepers_11 : decode cX10_keepers 11 = .ok (.iconst 1, 1) := by decide +kernel
theorem dX10_keepers_12 : decode cX10_keepers 12 = .ok (.aload_n 0, 1) := by decide +kernel
theorem dX10_keepers_13 : decode cX10_keepers 13 = .ok (.getfield 7, 3) := by decide +kernel
theorem dX10_keepers_16 : decode cX10_keepers 16 = .ok (.bipush 63, 2) := by decide +kernel
theorem dX10_keepers_18 : decode cX10_keepers 18 = .ok (.iaload, 1) := by decide +kernel
theorem dX10_keepers_19 : decode cX10_keepers 19 = .ok (.ishl, 1) := by decide +kernel
theorem dX10_keepers_20 : decode cX10_keepers 20 = .ok (.iconst 1, 1) := by decide +kernel
theorem dX10_keepers_21 : decode cX10_keepers 21 = .ok (.isub, 1) := by decide +kernel
theorem dX10_keepers_22 : decode cX10_keepers 22 = .ok (.istore_n 2, 1) := by decide +kernel
theorem dX10_keepers_23 : decode cX10_keepers 23 = .ok (.iload_n 1, 1) := by decide +kernel
theorem dX10_keepers_24 : decode cX10_keepers 24 = .ok (.iconst 2, 1) := by decide +kernel
theorem dX10_keepers_25 : decode cX10_keepers 25 = .ok (.if_icmp .ne 59, 3) := by decide +kernel
theorem dX10_keepers_28 : decode cX10_keepers 28 = .ok (.aload_n 0, 1) := by decide +kernel
theorem dX10_keepers_29 : decode cX10_keepers 29 = .ok (.getfield 7, 3) := by decide +kernel
theorem dX10_keepers_32 : decode cX10_keepers 32 = .ok (.bipush 63, 2) := by decide +kernel
theorem dX10_keepers_34 : decode cX10_keepers 34 = .ok (.iaload, 1) := by decide +kernel
theorem dX10_keepers_35 : decode cX10_keepers 35 = .ok (.ifCond .ne 7, 3) := by decide +kernel
theorem dX10_keepers_38 : decode cX10_keepers 38 = .ok (.iconst (-1), 1) := by decide +kernel
theorem dX10_keepers_39 : decode cX10_keepers 39 = .ok (.goto 4, 3) := by decide +kernel
theorem dX10_keepers_42 : decode cX10_keepers 42 = .ok (.iconst 0, 1) := by decide +kernel
theorem dX10_keepers_43 : decode cX10_keepers 43 = .ok (.istore_n 3, 1) := by decide +kernel
theorem dX10_keepers_44 : decode cX10_keepers 44 = .ok (.iconst 1, 1) := by decide +kernel
theorem dX10_keepers_45 : decode cX10_keepers 45 = .ok (.istore 4, 2) := by decide +kernel
theorem dX10_keepers_47 : decode cX10_keepers 47 = .ok (.iload 4, 2) := by decide +kernel
theorem dX10_keepers_49 : decode cX10_keepers 49 = .ok (.aload_n 0, 1) := by decide +kernel
theorem dX10_keepers_50 : decode cX10_keepers 50 = .ok (.getfield 7, 3) := by decide +kernel
theorem dX10_keepers_53 : decode cX10_keepers 53 = .ok (.bipush 63, 2) := by decide +kernel
theorem dX10_keepers_55 : decode cX10_keepers 55 = .ok (.iaload, 1) := by decide +kernel
theorem dX10_keepers_56 : decode cX10_keepers 56 = .ok (.if_icmp .ge 26, 3) := by decide +kernel
theorem dX10_keepers_59 : decode cX10_keepers 59 = .ok (.aload_n 0, 1) := by decide +kernel
theorem dX10_keepers_60 : decode cX10_keepers 60 = .ok (.iload 4, 2) := by decide +kernel
theorem dX10_keepers_62 : decode cX10_keepers 62 = .ok (.invokevirtual 412, 3) := by decide +kernel
theorem dX10_keepers_65 : decode cX10_keepers 65 = .ok (.aload_n 0, 1) := by decide +kernel
theorem dX10_keepers_66 : decode cX10_keepers 66 = .ok (.iload_n 3, 1) := by decide +kernel
theorem dX10_keepers_67 : decode cX10_keepers 67 = .ok (.invokevirtual 412, 3) := by decide +kernel
theorem dX10_keepers_70 : decode cX10_keepers 70 = .ok (.if_icmp .le 6, 3) := by decide +kernel
theorem dX10_keepers_73 : decode cX10_keepers 73 = .ok (.iload 4, 2) := by decide +kernel
theorem dX10_keepers_75 : decode cX10_keepers 75 = .ok (.istore_n 3, 1) := by decide +kernel
theorem dX10_keepers_76 : decode cX10_keepers 76 = .ok (.iinc 4 1, 3) := by decide +kernel
theorem dX10_keepers_79 : decode cX10_keepers 79 = .ok (.goto (-32), 3) := by decide +kernel
theorem dX10_keepers_82 : decode cX10_keepers 82 = .ok (.iload_n 3, 1) := by decide +kernel
theorem dX10_keepers_83 : decode cX10_keepers 83 = .ok (.ireturn, 1) := by decide +kernel
theorem dX10_keepers_84 : decode cX10_keepers 84 = .ok (.iload_n 2, 1) := by decide +kernel
theorem dX10_keepers_85 : decode cX10_keepers 85 = .ok (.istore_n 3, 1) := by decide +kernel
theorem dX10_keepers_86 : decode cX10_keepers 86 = .ok (.iload_n 2, 1) := by decide +kernel
theorem dX10_keepers_87 : decode cX10_keepers 87 = .ok (.istore 4, 2) := by decide +kernel
theorem dX10_keepers_89 : decode cX10_keepers 89 = .ok (.iload 4, 2) := by decide +kernel
theorem dX10_keepers_91 : decode cX10_keepers 91 = .ok (.ifCond .lt 38, 3) := by decide +kernel
theorem dX10_keepers_94 : decode cX10_keepers 94 = .ok (.iload 4, 2) := by decide +kernel
theorem dX10_keepers_96 : decode cX10_keepers 96 = .ok (.invokestatic 291, 3) := by decide +kernel
theorem dX10_keepers_99 : decode cX10_keepers 99 = .ok (.iload_n 3, 1) := by decide +kernel
theorem dX10_keepers_100 : decode cX10_keepers 100 = .ok (.invokestatic 291, 3) := by decide +kernel
theorem dX10_keepers_103 : decode cX10_keepers 103 = .ok (.if_icmp .gt 20, 3) := by decide +kernel
theorem dX10_keepers_106 : decode cX10_keepers 106 = .ok (.aload_n 0, 1) := by decide +kernel
theorem dX10_keepers_107 : decode cX10_keepers 107 = .ok (.iload 4, 2) := by decide +kernel
theorem dX10_keepers_109 : decode cX10_keepers 109 = .ok (.invokevirtual 409, 3) := by decide +kernel
theorem dX10_keepers_112 : decode cX10_keepers 112 = .ok (.aload_n 0, 1) := by decide +kernel
theorem dX10_keepers_113 : decode cX10_keepers 113 = .ok (.iload_n 2, 1) := by decide +kernel
theorem dX10_keepers_114 : decode cX10_keepers 114 = .ok (.invokevirtual 409, 3) := by decide +kernel
theorem dX10_keepers_117 : decode cX10_keepers 117 = .ok (.if_icmp .ne 6, 3) := by decide +kernel
theorem dX10_keepers_120 : decode cX10_keepers 120 = .ok (.iload 4, 2) := by decide +kernel
theorem dX10_keepers_122 : decode cX10_keepers 122 = .ok (.istore_n 3, 1) := by decide +kernel
theorem dX10_keepers_123 : decode cX10_keepers 123 = .ok (.iinc 4 (-1), 3) := by decide +kernel
theorem dX10_keepers_126 : decode cX10_keepers 126 = .ok (.goto (-37), 3) := by decide +kernel
theorem dX10_keepers_129 : decode cX10_keepers 129 = .ok (.iload_n 1, 1) := by decide +kernel
theorem dX10_keepers_130 : decode cX10_keepers 130 = .ok (.ifCond .ne 10, 3) := by decide +kernel
theorem dX10_keepers_133 : decode cX10_keepers 133 = .ok (.iload_n 3, 1) := by decide +kernel
theorem dX10_keepers_134 : decode cX10_keepers 134 = .ok (.invokestatic 291, 3) := by decide +kernel
theorem dX10_keepers_137 : decode cX10_keepers 137 = .ok (.goto 4, 3) := by decide +kernel
theorem dX10_keepers_140 : decode cX10_keepers 140 = .ok (.iload_n 3, 1) := by decide +kernel
theorem dX10_keepers_141 : decode cX10_keepers 141 = .ok (.ireturn, 1) := by decide +kernel
theorem dX10_goesRound_0 : decode cX10_goesRound 0 = .ok (.iload_n 2, 1) := by decide +kernel
theorem dX10_goesRound_1 : decode cX10_goesRound 1 = .ok (.ifCond .ne 49, 3) := by decide +kernel
theorem dX10_goesRound_4 : decode cX10_goesRound 4 = .ok (.iload 4, 2) := by decide +kernel
theorem dX10_goesRound_6 : decode cX10_goesRound 6 = .ok (.aload_n 0, 1) := by decide +kernel
theorem dX10_goesRound_7 : decode cX10_goesRound 7 = .ok (.getfield 415, 3) := by decide +kernel
theorem dX10_goesRound_10 : decode cX10_goesRound 10 = .ok (.if_icmp .lt 4, 3) := by decide +kernel
theorem dX10_goesRound_13 : decode cX10_goesRound 13 = .ok (.return_, 1) := by decide +kernel
theorem dX10_goesRound_14 : decode cX10_goesRound 14 = .ok (.aload_n 0, 1) := by decide +kernel
theorem dX10_goesRound_15 : decode cX10_goesRound 15 = .ok (.iload 4, 2) := by decide +kernel
theorem dX10_goesRound_17 : decode cX10_goesRound 17 = .ok (.putfield 415, 3) := by decide +kernel
theorem dX10_goesRound_20 : decode cX10_goesRound 20 = .ok (.iconst 0, 1) := by decide +kernel
theorem dX10_goesRound_21 : decode cX10_goesRound 21 = .ok (.istore 5, 2) := by decide +kernel
theorem dX10_goesRound_23 : decode cX10_goesRound 23 = .ok (.iload 5, 2) := by decide +kernel
theorem dX10_goesRound_25 : decode cX10_goesRound 25 = .ok (.iload_n 3, 1) := by decide +kernel
theorem dX10_goesRound_26 : decode cX10_goesRound 26 = .ok (.if_icmp .ge 23, 3) := by decide +kernel
theorem dX10_goesRound_29 : decode cX10_goesRound 29 = .ok (.aload_n 0, 1) := by decide +kernel
theorem dX10_goesRound_30 : decode cX10_goesRound 30 = .ok (.getfield 56, 3) := by decide +kernel
theorem dX10_goesRound_33 : decode cX10_goesRound 33 = .ok (.iload 5, 2) := by decide +kernel
theorem dX10_goesRound_35 : decode cX10_goesRound 35 = .ok (.aload_n 0, 1) := by decide +kernel
theorem dX10_goesRound_36 : decode cX10_goesRound 36 = .ok (.getfield 53, 3) := by decide +kernel
theorem dX10_goesRound_39 : decode cX10_goesRound 39 = .ok (.iload 5, 2) := by decide +kernel
theorem dX10_goesRound_41 : decode cX10_goesRound 41 = .ok (.iaload, 1) := by decide +kernel
theorem dX10_goesRound_42 : decode cX10_goesRound 42 = .ok (.iastore, 1) := by decide +kernel
theorem dX10_goesRound_43 : decode cX10_goesRound 43 = .ok (.iinc 5 1, 3) := by decide +kernel
theorem dX10_goesRound_46 : decode cX10_goesRound 46 = .ok (.goto (-23), 3) := by decide +kernel
theorem dX10_goesRound_49 : decode cX10_goesRound 49 = .ok (.return_, 1) := by decide +kernel
theorem dX10_goesRound_50 : decode cX10_goesRound 50 = .ok (.iconst 0, 1) := by decide +kernel
theorem dX10_goesRound_51 : decode cX10_goesRound 51 = .ok (.istore 5, 2) := by decide +kernel
theorem dX10_goesRound_53 : decode cX10_goesRound 53 = .ok (.iload 5, 2) := by decide +kernel
theorem dX10_goesRound_55 : decode cX10_goesRound 55 = .ok (.bipush 10, 2) := by decide +kernel
theorem dX10_goesRound_57 : decode cX10_goesRound 57 = .ok (.if_icmp .ge 56, 3) := by decide +kernel
theorem dX10_goesRound_60 : decode cX10_goesRound 60 = .ok (.iload_n 2, 1) := by decide +kernel
theorem dX10_goesRound_61 : decode cX10_goesRound 61 = .ok (.iload 5, 2) := by decide +kernel
theorem dX10_goesRound_63 : decode cX10_goesRound 63 = .ok (.ishr, 1) := by decide +kernel
theorem dX10_goesRound_64 : decode cX10_goesRound 64 = .ok (.iconst 1, 1) := by decide +kernel
theorem dX10_goesRound_65 : decode cX10_goesRound 65 = .ok (.iand, 1) := by decide +kernel
theorem dX10_goesRound_66 : decode cX10_goesRound 66 = .ok (.ifCond .ne 6, 3) := by decide +kernel
theorem dX10_goesRound_69 : decode cX10_goesRound 69 = .ok (.goto 38, 3) := by decide +kernel
theorem dX10_goesRound_72 : decode cX10_goesRound 72 = .ok (.aload_n 0, 1) := by decide +kernel
theorem dX10_goesRound_73 : decode cX10_goesRound 73 = .ok (.getfield 53, 3) := by decide +kernel
theorem dX10_goesRound_76 : decode cX10_goesRound 76 = .ok (.iload_n 3, 1) := by decide +kernel
theorem dX10_goesRound_77 : decode cX10_goesRound 77 = .ok (.iload 5, 2) := by decide +kernel
theorem dX10_goesRound_79 : decode cX10_goesRound 79 = .ok (.iastore, 1) := by decide +kernel
theorem dX10_goesRound_80 : decode cX10_goesRound 80 = .ok (.aload_n 0, 1) := by decide +kernel
theorem dX10_goesRound_81 : decode cX10_goesRound 81 = .ok (.iload 5, 2) := by decide +kernel
theorem dX10_goesRound_83 : decode cX10_goesRound 83 = .ok (.iload_n 2, 1) := by decide +kernel
theorem dX10_goesRound_84 : decode cX10_goesRound 84 = .ok (.iconst 1, 1) := by decide +kernel
theorem dX10_goesRound_85 : decode cX10_goesRound 85 = .ok (.iload 5, 2) := by decide +kernel
theorem dX10_goesRound_87 : decode cX10_goesRound 87 = .ok (.ishl, 1) := by decide +kernel
theorem dX10_goesRound_88 : decode cX10_goesRound 88 = .ok (.iconst (-1), 1) := by decide +kernel
theorem dX10_goesRound_89 : decode cX10_goesRound 89 = .ok (.ixor, 1) := by decide +kernel
theorem dX10_goesRound_90 : decode cX10_goesRound 90 = .ok (.iand, 1) := by decide +kernel
theorem dX10_goesRound_91 : decode cX10_goesRound 91 = .ok (.iload_n 3, 1) := by decide +kernel
theorem dX10_goesRound_92 : decode cX10_goesRound 92 = .ok (.iconst 1, 1) := by decide +kernel
theorem dX10_goesRound_93 : decode cX10_goesRound 93 = .ok (.iadd, 1) := by decide +kernel
theorem dX10_goesRound_94 : decode cX10_goesRound 94 = .ok (.iload 4, 2) := by decide +kernel
theorem dX10_goesRound_96 : decode cX10_goesRound 96 = .ok (.aload_n 0, 1) := by decide +kernel
theorem dX10_goesRound_97 : decode cX10_goesRound 97 = .ok (.iload_n 1, 1) := by decide +kernel
theorem dX10_goesRound_98 : decode cX10_goesRound 98 = .ok (.iload 5, 2) := by decide +kernel
theorem dX10_goesRound_100 : decode cX10_goesRound 100 = .ok (.invokevirtual 418, 3) := by decide +kernel
theorem dX10_goesRound_103 : decode cX10_goesRound 103 = .ok (.iadd, 1) := by decide +kernel
theorem dX10_goesRound_104 : decode cX10_goesRound 104 = .ok (.invokevirtual 421, 3) := by decide +kernel
theorem dX10_goesRound_107 : decode cX10_goesRound 107 = .ok (.iinc 5 1, 3) := by decide +kernel
theorem dX10_goesRound_110 : decode cX10_goesRound 110 = .ok (.goto (-57), 3) := by decide +kernel
theorem dX10_goesRound_113 : decode cX10_goesRound 113 = .ok (.return_, 1) := by decide +kernel
theorem dX10_round_0 : decode cX10_round 0 = .ok (.aload_n 0, 1) := by decide +kernel
theorem dX10_round_1 : decode cX10_round 1 = .ok (.iload_n 1, 1) := by decide +kernel
theorem dX10_round_2 : decode cX10_round 2 = .ok (.invokevirtual 75, 3) := by decide +kernel
theorem dX10_round_5 : decode cX10_round 5 = .ok (.ifCond .eq 14, 3) := by decide +kernel
theorem dX10_round_8 : decode cX10_round 8 = .ok (.iload_n 2, 1) := by decide +kernel
theorem dX10_round_9 : decode cX10_round 9 = .ok (.iconst 0, 1) := by decide +kernel
theorem dX10_round_10 : decode cX10_round 10 = .ok (.sipush 1023, 3) := by decide +kernel
theorem dX10_round_13 : decode cX10_round 13 = .ok (.invokestatic 59, 3) := by decide +kernel
theorem dX10_round_16 : decode cX10_round 16 = .ok (.ifCond .ne 5, 3) := by decide +kernel
theorem dX10_round_19 : decode cX10_round 19 = .ok (.iconst (-1), 1) := by decide +kernel
theorem dX10_round_20 : decode cX10_round 20 = .ok (.ireturn, 1) := by decide +kernel
theorem dX10_round_21 : decode cX10_round 21 = .ok (.iload_n 2, 1) := by decide +kernel
theorem dX10_round_22 : decode cX10_round 22 = .ok (.invokestatic 291, 3) := by decide +kernel
theorem dX10_round_25 : decode cX10_round 25 = .ok (.istore 4, 2) := by decide +kernel
theorem dX10_round_27 : decode cX10_round 27 = .ok (.iload 4, 2) := by decide +kernel
theorem dX10_round_29 : decode cX10_round 29 = .ok (.bipush 6, 2) := by decide +kernel
theorem dX10_round_31 : decode cX10_round 31 = .ok (.if_icmp .gt 21, 3) := by decide +kernel
theorem dX10_round_34 : decode cX10_round 34 = .ok (.iload_n 3, 1) := by decide +kernel
theorem dX10_round_35 : decode cX10_round 35 = .ok (.ifCond .eq 19, 3) := by decide +kernel
theorem dX10_round_38 : decode cX10_round 38 = .ok (.iload_n 3, 1) := by decide +kernel
theorem dX10_round_39 : decode cX10_round 39 = .ok (.bipush 10, 2) := by decide +kernel
theorem dX10_round_41 : decode cX10_round 41 = .ok (.bipush 9, 2) := by decide +kernel
theorem dX10_round_43 : decode cX10_round 43 = .ok (.iload 4, 2) := by decide +kernel
theorem dX10_round_45 : decode cX10_round 45 = .ok (.iadd, 1) := by decide +kernel
theorem dX10_round_46 : decode cX10_round 46 = .ok (.invokestatic 59, 3) := by decide +kernel
theorem dX10_round_49 : decode cX10_round 49 = .ok (.ifCond .ne 5, 3) := by decide +kernel
theorem dX10_round_52 : decode cX10_round 52 = .ok (.iconst (-1), 1) := by decide +kernel
theorem dX10_round_53 : decode cX10_round 53 = .ok (.ireturn, 1) := by decide +kernel
theorem dX10_round_54 : decode cX10_round 54 = .ok (.aload_n 0, 1) := by decide +kernel
theorem dX10_round_55 : decode cX10_round 55 = .ok (.ldc_w 425, 3) := by decide +kernel
theorem dX10_round_58 : decode cX10_round 58 = .ok (.putfield 415, 3) := by decide +kernel
theorem dX10_round_61 : decode cX10_round 61 = .ok (.aload_n 0, 1) := by decide +kernel
theorem dX10_round_62 : decode cX10_round 62 = .ok (.aload_n 0, 1) := by decide +kernel
theorem dX10_round_63 : decode cX10_round 63 = .ok (.getfield 7, 3) := by decide +kernel
theorem dX10_round_66 : decode cX10_round 66 = .ok (.bipush 32, 2) := by decide +kernel
theorem dX10_round_68 : decode cX10_round 68 = .ok (.iload_n 1, 1) := by decide +kernel
theorem dX10_round_69 : decode cX10_round 69 = .ok (.iadd, 1) := by decide +kernel
theorem dX10_round_70 : decode cX10_round 70 = .ok (.iaload, 1) := by decide +kernel
theorem dX10_round_71 : decode cX10_round 71 = .ok (.iload_n 2, 1) := by decide +kernel
theorem dX10_round_72 : decode cX10_round 72 = .ok (.iconst 0, 1) := by decide +kernel
theorem dX10_round_73 : decode cX10_round 73 = .ok (.iconst 0, 1) := by decide +kernel
theorem dX10_round_74 : decode cX10_round 74 = .ok (.invokevirtual 421, 3) := by decide +kernel
theorem dX10_round_77 : decode cX10_round 77 = .ok (.iload_n 3, 1) := by decide +kernel
theorem dX10_round_78 : decode cX10_round 78 = .ok (.ifCond .ne 10, 3) := by decide +kernel
theorem dX10_round_81 : decode cX10_round 81 = .ok (.aload_n 0, 1) := by decide +kernel
theorem dX10_round_82 : decode cX10_round 82 = .ok (.getfield 415, 3) := by decide +kernel
theorem dX10_round_85 : decode cX10_round 85 = .ok (.goto 12, 3) := by decide +kernel
theorem dX10_round_88 : decode cX10_round 88 = .ok (.aload_n 0, 1) := by decide +kernel
theorem dX10_round_89 : decode cX10_round 89 = .ok (.getfield 56, 3) := by decide +kernel
theorem dX10_round_92 : decode cX10_round 92 = .ok (.iload_n 3, 1) := by decide +kernel
theorem dX10_round_93 : decode cX10_round 93 = .ok (.bipush 10, 2) := by decide +kernel
theorem dX10_round_95 : decode cX10_round 95 = .ok (.isub, 1) := by decide +kernel
theorem dX10_round_96 : decode cX10_round 96 = .ok (.iaload, 1) := by decide +kernel
theorem dX10_round_97 : decode cX10_round 97 = .ok (.ireturn, 1) := by decide +kernel
theorem dX10_unsaidOf_0 : decode cX10_unsaidOf 0 = .ok (.iconst 0, 1) := by decide +kernel
theorem dX10_unsaidOf_1 : decode cX10_unsaidOf 1 = .ok (.istore_n 2, 1) := by decide +kernel
theorem dX10_unsaidOf_2 : decode cX10_unsaidOf 2 = .ok (.iconst 0, 1) := by decide +kernel
theorem dX10_unsaidOf_3 : decode cX10_unsaidOf 3 = .ok (.istore_n 3, 1) := by decide +kernel
theorem dX10_unsaidOf_4 : decode cX10_unsaidOf 4 = .ok (.iload_n 3, 1) := by decide +kernel
theorem dX10_unsaidOf_5 : decode cX10_unsaidOf 5 = .ok (.aload_n 0, 1) := by decide +kernel
theorem dX10_unsaidOf_6 : decode cX10_unsaidOf 6 = .ok (.getfield 7, 3) := by decide +kernel
theorem dX10_unsaidOf_9 : decode cX10_unsaidOf 9 = .ok (.bipush 62, 2) := by decide +kernel
theorem dX10_unsaidOf_11 : decode cX10_unsaidOf 11 = .ok (.iaload, 1) := by decide +kernel
theorem dX10_unsaidOf_12 : decode cX10_unsaidOf 12 = .ok (.if_icmp .ge 33, 3) := by decide +kernel
theorem dX10_unsaidOf_15 : decode cX10_unsaidOf 15 = .ok (.iload_n 2, 1) := by decide +kernel
theorem dX10_unsaidOf_16 : decode cX10_unsaidOf 16 = .ok (.iload_n 1, 1) := by decide +kernel
theorem dX10_unsaidOf_17 : decode cX10_unsaidOf 17 = .ok (.iload_n 3, 1) := by decide +kernel
theorem dX10_unsaidOf_18 : decode cX10_unsaidOf 18 = .ok (.ishr, 1) := by decide +kernel
theorem dX10_unsaidOf_19 : decode cX10_unsaidOf 19 = .ok (.iconst 1, 1) := by decide +kernel
theorem dX10_unsaidOf_20 : decode cX10_unsaidOf 20 = .ok (.iand, 1) := by decide +kernel
theorem dX10_unsaidOf_21 : decode cX10_unsaidOf 21 = .ok (.iconst 1, 1) := by decide +kernel
theorem dX10_unsaidOf_22 : decode cX10_unsaidOf 22 = .ok (.if_icmp .ne 14, 3) := by decide +kernel
theorem dX10_unsaidOf_25 : decode cX10_unsaidOf 25 = .ok (.aload_n 0, 1) := by decide +kernel
theorem dX10_unsaidOf_26 : decode cX10_unsaidOf 26 = .ok (.getfield 7, 3) := by decide +kernel
theorem dX10_unsaidOf_29 : decode cX10_unsaidOf 29 = .ok (.iconst 4, 1) := by decide +kernel
theorem dX10_unsaidOf_30 : decode cX10_unsaidOf 30 = .ok (.iload_n 3, 1) := by decide +kernel
theorem dX10_unsaidOf_31 : decode cX10_unsaidOf 31 = .ok (.iadd, 1) := by decide +kernel
theorem dX10_unsaidOf_32 : decode cX10_unsaidOf 32 = .ok (.iaload, 1) := by decide +kernel
theorem dX10_unsaidOf_33 : decode cX10_unsaidOf 33 = .ok (.goto 4, 3) := by decide +kernel
theorem dX10_unsaidOf_36 : decode cX10_unsaidOf 36 = .ok (.iconst 0, 1) := by decide +kernel
theorem dX10_unsaidOf_37 : decode cX10_unsaidOf 37 = .ok (.iadd, 1) := by decide +kernel
theorem dX10_unsaidOf_38 : decode cX10_unsaidOf 38 = .ok (.istore_n 2, 1) := by decide +kernel
theorem dX10_unsaidOf_39 : decode cX10_unsaidOf 39 = .ok (.iinc 3 1, 3) := by decide +kernel
theorem dX10_unsaidOf_42 : decode cX10_unsaidOf 42 = .ok (.goto (-38), 3) := by decide +kernel
theorem dX10_unsaidOf_45 : decode cX10_unsaidOf 45 = .ok (.iload_n 2, 1) := by decide +kernel
theorem dX10_unsaidOf_46 : decode cX10_unsaidOf 46 = .ok (.ireturn, 1) := by decide +kernel
theorem dX10_quarrel_0 : decode cX10_quarrel 0 = .ok (.aload_n 0, 1) := by decide +kernel
theorem dX10_quarrel_1 : decode cX10_quarrel 1 = .ok (.iload_n 1, 1) := by decide +kernel
theorem dX10_quarrel_2 : decode cX10_quarrel 2 = .ok (.invokevirtual 75, 3) := by decide +kernel
theorem dX10_quarrel_5 : decode cX10_quarrel 5 = .ok (.ifCond .eq 36, 3) := by decide +kernel
theorem dX10_quarrel_8 : decode cX10_quarrel 8 = .ok (.aload_n 0, 1) := by decide +kernel
theorem dX10_quarrel_9 : decode cX10_quarrel 9 = .ok (.iload_n 2, 1) := by decide +kernel
theorem dX10_quarrel_10 : decode cX10_quarrel 10 = .ok (.invokevirtual 75, 3) := by decide +kernel
theorem dX10_quarrel_13 : decode cX10_quarrel 13 = .ok (.ifCond .eq 28, 3) := by decide +kernel
theorem dX10_quarrel_16 : decode cX10_quarrel 16 = .ok (.iload_n 1, 1) := by decide +kernel
theorem dX10_quarrel_17 : decode cX10_quarrel 17 = .ok (.iload_n 2, 1) := by decide +kernel
theorem dX10_quarrel_18 : decode cX10_quarrel 18 = .ok (.if_icmp .eq 23, 3) := by decide +kernel
theorem dX10_quarrel_21 : decode cX10_quarrel 21 = .ok (.iload_n 3, 1) := by decide +kernel
theorem dX10_quarrel_22 : decode cX10_quarrel 22 = .ok (.iconst 1, 1) := by decide +kernel
theorem dX10_quarrel_23 : decode cX10_quarrel 23 = .ok (.bipush 6, 2) := by decide +kernel
theorem dX10_quarrel_25 : decode cX10_quarrel 25 = .ok (.invokestatic 59, 3) := by decide +kernel
theorem dX10_quarrel_28 : decode cX10_quarrel 28 = .ok (.ifCond .eq 13, 3) := by decide +kernel
theorem dX10_quarrel_31 : decode cX10_quarrel 31 = .ok (.iload 4, 2) := by decide +kernel
theorem dX10_quarrel_33 : decode cX10_quarrel 33 = .ok (.iconst 0, 1) := by decide +kernel
theorem dX10_quarrel_34 : decode cX10_quarrel 34 = .ok (.iconst 2, 1) := by decide +kernel
theorem dX10_quarrel_35 : decode cX10_quarrel 35 = .ok (.invokestatic 59, 3) := by decide +kernel
theorem dX10_quarrel_38 : decode cX10_quarrel 38 = .ok (.ifCond .ne 5, 3) := by decide +kernel
theorem dX10_quarrel_41 : decode cX10_quarrel 41 = .ok (.iconst (-1), 1) := by decide +kernel
theorem dX10_quarrel_42 : decode cX10_quarrel 42 = .ok (.ireturn, 1) := by decide +kernel
theorem dX10_quarrel_43 : decode cX10_quarrel 43 = .ok (.aload_n 0, 1) := by decide +kernel
theorem dX10_quarrel_44 : decode cX10_quarrel 44 = .ok (.getfield 7, 3) := by decide +kernel
theorem dX10_quarrel_47 : decode cX10_quarrel 47 = .ok (.bipush 42, 2) := by decide +kernel
theorem dX10_quarrel_49 : decode cX10_quarrel 49 = .ok (.iload_n 1, 1) := by decide +kernel
theorem dX10_quarrel_50 : decode cX10_quarrel 50 = .ok (.iadd, 1) := by decide +kernel
theorem dX10_quarrel_51 : decode cX10_quarrel 51 = .ok (.iaload, 1) := by decide +kernel
theorem dX10_quarrel_52 : decode cX10_quarrel 52 = .ok (.aload_n 0, 1) := by decide +kernel
theorem dX10_quarrel_53 : decode cX10_quarrel 53 = .ok (.getfield 7, 3) := by decide +kernel
theorem dX10_quarrel_56 : decode cX10_quarrel 56 = .ok (.bipush 42, 2) := by decide +kernel
theorem dX10_quarrel_58 : decode cX10_quarrel 58 = .ok (.iload_n 2, 1) := by decide +kernel
theorem dX10_quarrel_59 : decode cX10_quarrel 59 = .ok (.iadd, 1) := by decide +kernel
theorem dX10_quarrel_60 : decode cX10_quarrel 60 = .ok (.iaload, 1) := by decide +kernel
theorem dX10_quarrel_61 : decode cX10_quarrel 61 = .ok (.iand, 1) := by decide +kernel
theorem dX10_quarrel_62 : decode cX10_quarrel 62 = .ok (.istore 5, 2) := by decide +kernel
theorem dX10_quarrel_64 : decode cX10_quarrel 64 = .ok (.iload 4, 2) := by decide +kernel
theorem dX10_quarrel_66 : decode cX10_quarrel 66 = .ok (.ifCond .ne 9, 3) := by decide +kernel
theorem dX10_quarrel_69 : decode cX10_quarrel 69 = .ok (.iload 5, 2) := by decide +kernel
theorem dX10_quarrel_71 : decode cX10_quarrel 71 = .ok (.invokestatic 291, 3) := by decide +kernel
theorem dX10_quarrel_74 : decode cX10_quarrel 74 = .ok (.ireturn, 1) := by decide +kernel
theorem dX10_quarrel_75 : decode cX10_quarrel 75 = .ok (.iconst (-1), 1) := by decide +kernel
theorem dX10_quarrel_76 : decode cX10_quarrel 76 = .ok (.istore 6, 2) := by decide +kernel
theorem dX10_quarrel_78 : decode cX10_quarrel 78 = .ok (.iconst 0, 1) := by decide +kernel
theorem dX10_quarrel_79 : decode cX10_quarrel 79 = .ok (.istore 7, 2) := by decide +kernel
theorem dX10_quarrel_81 : decode cX10_quarrel 81 = .ok (.iload 7, 2) := by decide +kernel
theorem dX10_quarrel_83 : decode cX10_quarrel 83 = .ok (.iload 5, 2) := by decide +kernel
theorem dX10_quarrel_85 : decode cX10_quarrel 85 = .ok (.if_icmp .gt 53, 3) := by decide +kernel
theorem dX10_quarrel_88 : decode cX10_quarrel 88 = .ok (.iload 7, 2) := by decide +kernel
theorem dX10_quarrel_90 : decode cX10_quarrel 90 = .ok (.iload 5, 2) := by decide +kernel
theorem dX10_quarrel_92 : decode cX10_quarrel 92 = .ok (.iconst (-1), 1) := by decide +kernel
theorem dX10_quarrel_93 : decode cX10_quarrel 93 = .ok (.ixor, 1) := by decide +kernel
theorem dX10_quarrel_94 : decode cX10_quarrel 94 = .ok (.iand, 1) := by decide +kernel
theorem dX10_quarrel_95 : decode cX10_quarrel 95 = .ok (.ifCond .ne 37, 3) := by decide +kernel
theorem dX10_quarrel_98 : decode cX10_quarrel 98 = .ok (.iload 7, 2) := by decide +kernel
theorem dX10_quarrel_100 : decode cX10_quarrel 100 = .ok (.invokestatic 291, 3) := by decide +kernel
theorem dX10_quarrel_103 : decode cX10_quarrel 103 = .ok (.iload_n 3, 1) := by decide +kernel
theorem dX10_quarrel_104 : decode cX10_quarrel 104 = .ok (.if_icmp .ne 28, 3) := by decide +kernel
theorem dX10_quarrel_107 : decode cX10_quarrel 107 = .ok (.iload 6, 2) := by decide +kernel
theorem dX10_quarrel_109 : decode cX10_quarrel 109 = .ok (.iconst (-1), 1) := by decide +kernel
theorem dX10_quarrel_110 : decode cX10_quarrel 110 = .ok (.if_icmp .eq 18, 3) := by decide +kernel
theorem dX10_quarrel_113 : decode cX10_quarrel 113 = .ok (.aload_n 0, 1) := by decide +kernel
theorem dX10_quarrel_114 : decode cX10_quarrel 114 = .ok (.iload 7, 2) := by decide +kernel
theorem dX10_quarrel_116 : decode cX10_quarrel 116 = .ok (.invokevirtual 426, 3) := by decide +kernel
theorem dX10_quarrel_119 : decode cX10_quarrel 119 = .ok (.aload_n 0, 1) := by decide +kernel
theorem dX10_quarrel_120 : decode cX10_quarrel 120 = .ok (.iload 6, 2) := by decide +kernel
theorem dX10_quarrel_122 : decode cX10_quarrel 122 = .ok (.invokevirtual 426, 3) := by decide +kernel
theorem dX10_quarrel_125 : decode cX10_quarrel 125 = .ok (.if_icmp .le 7, 3) := by decide +kernel
theorem dX10_quarrel_128 : decode cX10_quarrel 128 = .ok (.iload 7, 2) := by decide +kernel
theorem dX10_quarrel_130 : decode cX10_quarrel 130 = .ok (.istore 6, 2) := by decide +kernel
theorem dX10_quarrel_132 : decode cX10_quarrel 132 = .ok (.iinc 7 1, 3) := by decide +kernel
theorem dX10_quarrel_135 : decode cX10_quarrel 135 = .ok (.goto (-54), 3) := by decide +kernel
theorem dX10_quarrel_138 : decode cX10_quarrel 138 = .ok (.iload 6, 2) := by decide +kernel
theorem dX10_quarrel_140 : decode cX10_quarrel 140 = .ok (.iconst (-1), 1) := by decide +kernel
theorem dX10_quarrel_141 : decode cX10_quarrel 141 = .ok (.if_icmp .eq 9, 3) := by decide +kernel
theorem dX10_quarrel_144 : decode cX10_quarrel 144 = .ok (.iload 4, 2) := by decide +kernel
theorem dX10_quarrel_146 : decode cX10_quarrel 146 = .ok (.iconst 2, 1) := by decide +kernel
theorem dX10_quarrel_147 : decode cX10_quarrel 147 = .ok (.if_icmp .ne 8, 3) := by decide +kernel
theorem dX10_quarrel_150 : decode cX10_quarrel 150 = .ok (.iload 6, 2) := by decide +kernel
theorem dX10_quarrel_152 : decode cX10_quarrel 152 = .ok (.goto 9, 3) := by decide +kernel
theorem dX10_quarrel_155 : decode cX10_quarrel 155 = .ok (.aload_n 0, 1) := by decide +kernel
theorem dX10_quarrel_156 : decode cX10_quarrel 156 = .ok (.iload 6, 2) := by decide +kernel
theorem dX10_quarrel_158 : decode cX10_quarrel 158 = .ok (.invokevirtual 426, 3) := by decide +kernel
theorem dX10_quarrel_161 : decode cX10_quarrel 161 = .ok (.ireturn, 1) := by decide +kernel
theorem dX10_talk_0 : decode cX10_talk 0 = .ok (.iload_n 1, 1) := by decide +kernel
theorem dX10_talk_1 : decode cX10_talk 1 = .ok (.iconst (-1), 1) := by decide +kernel
theorem dX10_talk_2 : decode cX10_talk 2 = .ok (.if_icmp .ne 13, 3) := by decide +kernel
theorem dX10_talk_5 : decode cX10_talk 5 = .ok (.aload_n 0, 1) := by decide +kernel
theorem dX10_talk_6 : decode cX10_talk 6 = .ok (.getfield 7, 3) := by decide +kernel
theorem dX10_talk_9 : decode cX10_talk 9 = .ok (.bipush 69, 2) := by decide +kernel
theorem dX10_talk_11 : decode cX10_talk 11 = .ok (.iconst 0, 1) := by decide +kernel
theorem dX10_talk_12 : decode cX10_talk 12 = .ok (.iastore, 1) := by decide +kernel
theorem dX10_talk_13 : decode cX10_talk 13 = .ok (.iconst 0, 1) := by decide +kernel
theorem dX10_talk_14 : decode cX10_talk 14 = .ok (.ireturn, 1) := by decide +kernel
theorem dX10_talk_15 : decode cX10_talk 15 = .ok (.aload_n 0, 1) := by decide +kernel
theorem dX10_talk_16 : decode cX10_talk 16 = .ok (.iload_n 1, 1) := by decide +kernel
theorem dX10_talk_17 : decode cX10_talk 17 = .ok (.invokevirtual 78, 3) := by decide +kernel
theorem dX10_talk_20 : decode cX10_talk 20 = .ok (.ifCond .eq 27, 3) := by decide +kernel
theorem dX10_talk_23 : decode cX10_talk 23 = .ok (.iload_n 2, 1) := by decide +kernel
theorem dX10_talk_24 : decode cX10_talk 24 = .ok (.iconst (-1), 1) := by decide +kernel
theorem dX10_talk_25 : decode cX10_talk 25 = .ok (.if_icmp .eq 10, 3) := by decide +kernel
theorem dX10_talk_28 : decode cX10_talk 28 = .ok (.iload_n 2, 1) := by decide +kernel
theorem dX10_talk_29 : decode cX10_talk 29 = .ok (.invokestatic 71, 3) := by decide +kernel
theorem dX10_talk_32 : decode cX10_talk 32 = .ok (.ifCond .eq 15, 3) := by decide +kernel
theorem dX10_talk_35 : decode cX10_talk 35 = .ok (.aload_n 0, 1) := by decide +kernel
theorem dX10_talk_36 : decode cX10_talk 36 = .ok (.getfield 7, 3) := by decide +kernel
theorem dX10_talk_39 : decode cX10_talk 39 = .ok (.bipush 69, 2) := by decide +kernel
theorem dX10_talk_41 : decode cX10_talk 41 = .ok (.iaload, 1) := by decide +kernel
theorem dX10_talk_42 : decode cX10_talk 42 = .ok (.bipush 10, 2) := by decide +kernel
theorem dX10_talk_44 : decode cX10_talk 44 = .ok (.if_icmp .ne 5, 3) := by decide +kernel
theorem dX10_talk_47 : decode cX10_talk 47 = .ok (.iconst (-1), 1) := by decide +kernel
theorem dX10_talk_48 : decode cX10_talk 48 = .ok (.ireturn, 1) := by decide +kernel
theorem dX10_talk_49 : decode cX10_talk 49 = .ok (.aload_n 0, 1) := by decide +kernel
theorem dX10_talk_50 : decode cX10_talk 50 = .ok (.getfield 7, 3) := by decide +kernel
theorem dX10_talk_53 : decode cX10_talk 53 = .ok (.sipush 728, 3) := by decide +kernel
theorem dX10_talk_56 : decode cX10_talk 56 = .ok (.iconst 2, 1) := by decide +kernel
theorem dX10_talk_57 : decode cX10_talk 57 = .ok (.aload_n 0, 1) := by decide +kernel
theorem dX10_talk_58 : decode cX10_talk 58 = .ok (.getfield 7, 3) := by decide +kernel
theorem dX10_talk_61 : decode cX10_talk 61 = .ok (.bipush 69, 2) := by decide +kernel
theorem dX10_talk_63 : decode cX10_talk 63 = .ok (.iaload, 1) := by decide +kernel
theorem dX10_talk_64 : decode cX10_talk 64 = .ok (.imul, 1) := by decide +kernel
theorem dX10_talk_65 : decode cX10_talk 65 = .ok (.iadd, 1) := by decide +kernel
theorem dX10_talk_66 : decode cX10_talk 66 = .ok (.iload_n 1, 1) := by decide +kernel
theorem dX10_talk_67 : decode cX10_talk 67 = .ok (.iastore, 1) := by decide +kernel
theorem dX10_talk_68 : decode cX10_talk 68 = .ok (.aload_n 0, 1) := by decide +kernel
theorem dX10_talk_69 : decode cX10_talk 69 = .ok (.getfield 7, 3) := by decide +kernel
theorem dX10_talk_72 : decode cX10_talk 72 = .ok (.sipush 728, 3) := by decide +kernel
theorem dX10_talk_75 : decode cX10_talk 75 = .ok (.iconst 2, 1) := by decide +kernel
theorem dX10_talk_76 : decode cX10_talk 76 = .ok (.aload_n 0, 1) := by decide +kernel
theorem dX10_talk_77 : decode cX10_talk 77 = .ok (.getfield 7, 3) := by decide +kernel
theorem dX10_talk_80 : decode cX10_talk 80 = .ok (.bipush 69, 2) := by decide +kernel
theorem dX10_talk_82 : decode cX10_talk 82 = .ok (.iaload, 1) := by decide +kernel
theorem dX10_talk_83 : decode cX10_talk 83 = .ok (.imul, 1) := by decide +kernel
theorem dX10_talk_84 : decode cX10_talk 84 = .ok (.iadd, 1) := by decide +kernel
theorem dX10_talk_85 : decode cX10_talk 85 = .ok (.iconst 1, 1) := by decide +kernel
theorem dX10_talk_86 : decode cX10_talk 86 = .ok (.iadd, 1) := by decide +kernel
theorem dX10_talk_87 : decode cX10_talk 87 = .ok (.iload_n 2, 1) := by decide +kernel
theorem dX10_talk_88 : decode cX10_talk 88 = .ok (.iastore, 1) := by decide +kernel
theorem dX10_talk_89 : decode cX10_talk 89 = .ok (.aload_n 0, 1) := by decide +kernel
theorem dX10_talk_90 : decode cX10_talk 90 = .ok (.getfield 7, 3) := by decide +kernel
theorem dX10_talk_93 : decode cX10_talk 93 = .ok (.bipush 69, 2) := by decide +kernel
theorem dX10_talk_95 : decode cX10_talk 95 = .ok (.dup2, 1) := by decide +kernel
theorem dX10_talk_96 : decode cX10_talk 96 = .ok (.iaload, 1) := by decide +kernel
theorem dX10_talk_97 : decode cX10_talk 97 = .ok (.iconst 1, 1) := by decide +kernel
theorem dX10_talk_98 : decode cX10_talk 98 = .ok (.iadd, 1) := by decide +kernel
theorem dX10_talk_99 : decode cX10_talk 99 = .ok (.iastore, 1) := by decide +kernel
theorem dX10_talk_100 : decode cX10_talk 100 = .ok (.aload_n 0, 1) := by decide +kernel
theorem dX10_talk_101 : decode cX10_talk 101 = .ok (.getfield 7, 3) := by decide +kernel
theorem dX10_talk_104 : decode cX10_talk 104 = .ok (.bipush 69, 2) := by decide +kernel
theorem dX10_talk_106 : decode cX10_talk 106 = .ok (.iaload, 1) := by decide +kernel
theorem dX10_talk_107 : decode cX10_talk 107 = .ok (.ireturn, 1) := by decide +kernel
theorem dX10_spokeSet_0 : decode cX10_spokeSet 0 = .ok (.iconst 0, 1) := by decide +kernel
theorem dX10_spokeSet_1 : decode cX10_spokeSet 1 = .ok (.istore_n 1, 1) := by decide +kernel
theorem dX10_spokeSet_2 : decode cX10_spokeSet 2 = .ok (.iconst 0, 1) := by decide +kernel
theorem dX10_spokeSet_3 : decode cX10_spokeSet 3 = .ok (.istore_n 2, 1) := by decide +kernel
theorem dX10_spokeSet_4 : decode cX10_spokeSet 4 = .ok (.iload_n 2, 1) := by decide +kernel
theorem dX10_spokeSet_5 : decode cX10_spokeSet 5 = .ok (.aload_n 0, 1) := by decide +kernel
theorem dX10_spokeSet_6 : decode cX10_spokeSet 6 = .ok (.getfield 7, 3) := by decide +kernel
theorem dX10_spokeSet_9 : decode cX10_spokeSet 9 = .ok (.bipush 63, 2) := by decide +kernel
theorem dX10_spokeSet_11 : decode cX10_spokeSet 11 = .ok (.iaload, 1) := by decide +kernel
theorem dX10_spokeSet_12 : decode cX10_spokeSet 12 = .ok (.if_icmp .ge 123, 3) := by decide +kernel
theorem dX10_spokeSet_15 : decode cX10_spokeSet 15 = .ok (.iconst 1, 1) := by decide +kernel
theorem dX10_spokeSet_16 : decode cX10_spokeSet 16 = .ok (.istore_n 3, 1) := by decide +kernel
theorem dX10_spokeSet_17 : decode cX10_spokeSet 17 = .ok (.iconst 0, 1) := by decide +kernel
theorem dX10_spokeSet_18 : decode cX10_spokeSet 18 = .ok (.istore 4, 2) := by decide +kernel
theorem dX10_spokeSet_20 : decode cX10_spokeSet 20 = .ok (.iload 4, 2) := by decide +kernel
theorem dX10_spokeSet_22 : decode cX10_spokeSet 22 = .ok (.aload_n 0, 1) := by decide +kernel
theorem dX10_spokeSet_23 : decode cX10_spokeSet 23 = .ok (.getfield 7, 3) := by decide +kernel
theorem dX10_spokeSet_26 : decode cX10_spokeSet 26 = .ok (.bipush 69, 2) := by decide +kernel
theorem dX10_spokeSet_28 : decode cX10_spokeSet 28 = .ok (.iaload, 1) := by decide +kernel
theorem dX10_spokeSet_29 : decode cX10_spokeSet 29 = .ok (.if_icmp .ge 86, 3) := by decide +kernel
theorem dX10_spokeSet_32 : decode cX10_spokeSet 32 = .ok (.iload_n 3, 1) := by decide +kernel
theorem dX10_spokeSet_33 : decode cX10_spokeSet 33 = .ok (.ifCond .eq 74, 3) := by decide +kernel
theorem dX10_spokeSet_36 : decode cX10_spokeSet 36 = .ok (.aload_n 0, 1) := by decide +kernel
theorem dX10_spokeSet_37 : decode cX10_spokeSet 37 = .ok (.iload_n 2, 1) := by decide +kernel
theorem dX10_spokeSet_38 : decode cX10_spokeSet 38 = .ok (.aload_n 0, 1) := by decide +kernel
theorem dX10_spokeSet_39 : decode cX10_spokeSet 39 = .ok (.getfield 7, 3) := by decide +kernel
theorem dX10_spokeSet_42 : decode cX10_spokeSet 42 = .ok (.sipush 728, 3) := by decide +kernel
theorem dX10_spokeSet_45 : decode cX10_spokeSet 45 = .ok (.iconst 2, 1) := by decide +kernel
theorem dX10_spokeSet_46 : decode cX10_spokeSet 46 = .ok (.iload 4, 2) := by decide +kernel
theorem dX10_spokeSet_48 : decode cX10_spokeSet 48 = .ok (.imul, 1) := by decide +kernel
theorem dX10_spokeSet_49 : decode cX10_spokeSet 49 = .ok (.iadd, 1) := by decide +kernel
theorem dX10_spokeSet_50 : decode cX10_spokeSet 50 = .ok (.iaload, 1) := by decide +kernel
theorem dX10_spokeSet_51 : decode cX10_spokeSet 51 = .ok (.invokevirtual 288, 3) := by decide +kernel
theorem dX10_spokeSet_54 : decode cX10_spokeSet 54 = .ok (.ifCond .eq 53, 3) := by decide +kernel
theorem dX10_spokeSet_57 : decode cX10_spokeSet 57 = .ok (.aload_n 0, 1) := by decide +kernel
theorem dX10_spokeSet_58 : decode cX10_spokeSet 58 = .ok (.getfield 7, 3) := by decide +kernel
theorem dX10_spokeSet_61 : decode cX10_spokeSet 61 = .ok (.sipush 728, 3) := by decide +kernel
theorem dX10_spokeSet_64 : decode cX10_spokeSet 64 = .ok (.iconst 2, 1) := by decide +kernel
theorem dX10_spokeSet_65 : decode cX10_spokeSet 65 = .ok (.iload 4, 2) := by decide +kernel
theorem dX10_spokeSet_67 : decode cX10_spokeSet 67 = .ok (.imul, 1) := by decide +kernel
theorem dX10_spokeSet_68 : decode cX10_spokeSet 68 = .ok (.iadd, 1) := by decide +kernel
theorem dX10_spokeSet_69 : decode cX10_spokeSet 69 = .ok (.iconst 1, 1) := by decide +kernel
theorem dX10_spokeSet_70 : decode cX10_spokeSet 70 = .ok (.iadd, 1) := by decide +kernel
theorem dX10_spokeSet_71 : decode cX10_spokeSet 71 = .ok (.iaload, 1) := by decide +kernel
theorem dX10_spokeSet_72 : decode cX10_spokeSet 72 = .ok (.iconst (-1), 1) := by decide +kernel
theorem dX10_spokeSet_73 : decode cX10_spokeSet 73 = .ok (.if_icmp .eq 30, 3) := by decide +kernel
theorem dX10_spokeSet_76 : decode cX10_spokeSet 76 = .ok (.aload_n 0, 1) := by decide +kernel
theorem dX10_spokeSet_77 : decode cX10_spokeSet 77 = .ok (.getfield 7, 3) := by decide +kernel
theorem dX10_spokeSet_80 : decode cX10_spokeSet 80 = .ok (.sipush 728, 3) := by decide +kernel
theorem dX10_spokeSet_83 : decode cX10_spokeSet 83 = .ok (.iconst 2, 1) := by decide +kernel
theorem dX10_spokeSet_84 : decode cX10_spokeSet 84 = .ok (.iload 4, 2) := by decide +kernel
theorem dX10_spokeSet_86 : decode cX10_spokeSet 86 = .ok (.imul, 1) := by decide +kernel
theorem dX10_spokeSet_87 : decode cX10_spokeSet 87 = .ok (.iadd, 1) := by decide +kernel
theorem dX10_spokeSet_88 : decode cX10_spokeSet 88 = .ok (.iconst 1, 1) := by decide +kernel
theorem dX10_spokeSet_89 : decode cX10_spokeSet 89 = .ok (.iadd, 1) := by decide +kernel
theorem dX10_spokeSet_90 : decode cX10_spokeSet 90 = .ok (.iaload, 1) := by decide +kernel
theorem dX10_spokeSet_91 : decode cX10_spokeSet 91 = .ok (.aload_n 0, 1) := by decide +kernel
theorem dX10_spokeSet_92 : decode cX10_spokeSet 92 = .ok (.getfield 7, 3) := by decide +kernel
theorem dX10_spokeSet_95 : decode cX10_spokeSet 95 = .ok (.bipush 32, 2) := by decide +kernel
theorem dX10_spokeSet_97 : decode cX10_spokeSet 97 = .ok (.iload_n 2, 1) := by decide +kernel
theorem dX10_spokeSet_98 : decode cX10_spokeSet 98 = .ok (.iadd, 1) := by decide +kernel
theorem dX10_spokeSet_99 : decode cX10_spokeSet 99 = .ok (.iaload, 1) := by decide +kernel
theorem dX10_spokeSet_100 : decode cX10_spokeSet 100 = .ok (.if_icmp .ne 7, 3) := by decide +kernel
theorem dX10_spokeSet_103 : decode cX10_spokeSet 103 = .ok (.iconst 1, 1) := by decide +kernel
theorem dX10_spokeSet_104 : decode cX10_spokeSet 104 = .ok (.goto 4, 3) := by decide +kernel
theorem dX10_spokeSet_107 : decode cX10_spokeSet 107 = .ok (.iconst 0, 1) := by decide +kernel
theorem dX10_spokeSet_108 : decode cX10_spokeSet 108 = .ok (.istore_n 3, 1) := by decide +kernel
theorem dX10_spokeSet_109 : decode cX10_spokeSet 109 = .ok (.iinc 4 1, 3) := by decide +kernel
theorem dX10_spokeSet_112 : decode cX10_spokeSet 112 = .ok (.goto (-92), 3) := by decide +kernel
theorem dX10_spokeSet_115 : decode cX10_spokeSet 115 = .ok (.iload_n 1, 1) := by decide +kernel
theorem dX10_spokeSet_116 : decode cX10_spokeSet 116 = .ok (.iload_n 3, 1) := by decide +kernel
theorem dX10_spokeSet_117 : decode cX10_spokeSet 117 = .ok (.ifCond .eq 9, 3) := by decide +kernel
theorem dX10_spokeSet_120 : decode cX10_spokeSet 120 = .ok (.iconst 1, 1) := by decide +kernel
theorem dX10_spokeSet_121 : decode cX10_spokeSet 121 = .ok (.iload_n 2, 1) := by decide +kernel
theorem dX10_spokeSet_122 : decode cX10_spokeSet 122 = .ok (.ishl, 1) := by decide +kernel
theorem dX10_spokeSet_123 : decode cX10_spokeSet 123 = .ok (.goto 4, 3) := by decide +kernel
theorem dX10_spokeSet_126 : decode cX10_spokeSet 126 = .ok (.iconst 0, 1) := by decide +kernel
theorem dX10_spokeSet_127 : decode cX10_spokeSet 127 = .ok (.ior, 1) := by decide +kernel
theorem dX10_spokeSet_128 : decode cX10_spokeSet 128 = .ok (.istore_n 1, 1) := by decide +kernel
theorem dX10_spokeSet_129 : decode cX10_spokeSet 129 = .ok (.iinc 2 1, 3) := by decide +kernel
theorem dX10_spokeSet_132 : decode cX10_spokeSet 132 = .ok (.goto (-128), 3) := by decide +kernel
theorem dX10_spokeSet_135 : decode cX10_spokeSet 135 = .ok (.iload_n 1, 1) := by decide +kernel
theorem dX10_spokeSet_136 : decode cX10_spokeSet 136 = .ok (.ireturn, 1) := by decide +kernel
theorem dX10_greaterBy_0 : decode cX10_greaterBy 0 = .ok (.aload_n 0, 1) := by decide +kernel
theorem dX10_greaterBy_1 : decode cX10_greaterBy 1 = .ok (.iload_n 1, 1) := by decide +kernel
theorem dX10_greaterBy_2 : decode cX10_greaterBy 2 = .ok (.invokevirtual 294, 3) := by decide +kernel
theorem dX10_greaterBy_5 : decode cX10_greaterBy 5 = .ok (.iload_n 2, 1) := by decide +kernel
theorem dX10_greaterBy_6 : decode cX10_greaterBy 6 = .ok (.iand, 1) := by decide +kernel
theorem dX10_greaterBy_7 : decode cX10_greaterBy 7 = .ok (.invokestatic 291, 3) := by decide +kernel
theorem dX10_greaterBy_10 : decode cX10_greaterBy 10 = .ok (.istore_n 3, 1) := by decide +kernel
theorem dX10_greaterBy_11 : decode cX10_greaterBy 11 = .ok (.iload_n 3, 1) := by decide +kernel
theorem dX10_greaterBy_12 : decode cX10_greaterBy 12 = .ok (.iload_n 2, 1) := by decide +kernel
theorem dX10_greaterBy_13 : decode cX10_greaterBy 13 = .ok (.invokestatic 291, 3) := by decide +kernel
theorem dX10_greaterBy_16 : decode cX10_greaterBy 16 = .ok (.iload_n 3, 1) := by decide +kernel
theorem dX10_greaterBy_17 : decode cX10_greaterBy 17 = .ok (.isub, 1) := by decide +kernel
theorem dX10_greaterBy_18 : decode cX10_greaterBy 18 = .ok (.invokestatic 304, 3) := by decide +kernel
theorem dX10_greaterBy_21 : decode cX10_greaterBy 21 = .ok (.ireturn, 1) := by decide +kernel
theorem dX10_spoke_0 : decode cX10_spoke 0 = .ok (.aload_n 0, 1) := by decide +kernel
theorem dX10_spoke_1 : decode cX10_spoke 1 = .ok (.invokevirtual 429, 3) := by decide +kernel
theorem dX10_spoke_4 : decode cX10_spoke 4 = .ok (.istore_n 2, 1) := by decide +kernel
theorem dX10_spoke_5 : decode cX10_spoke 5 = .ok (.iload_n 1, 1) := by decide +kernel
theorem dX10_spoke_6 : decode cX10_spoke 6 = .ok (.ifCond .eq 5, 3) := by decide +kernel
theorem dX10_spoke_9 : decode cX10_spoke 9 = .ok (.iload_n 2, 1) := by decide +kernel
theorem dX10_spoke_10 : decode cX10_spoke 10 = .ok (.ireturn, 1) := by decide +kernel
theorem dX10_spoke_11 : decode cX10_spoke 11 = .ok (.iload_n 2, 1) := by decide +kernel
theorem dX10_spoke_12 : decode cX10_spoke 12 = .ok (.invokestatic 291, 3) := by decide +kernel
theorem dX10_spoke_15 : decode cX10_spoke 15 = .ok (.iconst 2, 1) := by decide +kernel
theorem dX10_spoke_16 : decode cX10_spoke 16 = .ok (.if_icmp .lt 13, 3) := by decide +kernel
theorem dX10_spoke_19 : decode cX10_spoke 19 = .ok (.aload_n 0, 1) := by decide +kernel
theorem dX10_spoke_20 : decode cX10_spoke 20 = .ok (.getfield 7, 3) := by decide +kernel
theorem dX10_spoke_23 : decode cX10_spoke 23 = .ok (.bipush 62, 2) := by decide +kernel
theorem dX10_spoke_25 : decode cX10_spoke 25 = .ok (.iaload, 1) := by decide +kernel
theorem dX10_spoke_26 : decode cX10_spoke 26 = .ok (.ifCond .ne 5, 3) := by decide +kernel
theorem dX10_spoke_29 : decode cX10_spoke 29 = .ok (.iconst (-1), 1) := by decide +kernel
theorem dX10_spoke_30 : decode cX10_spoke 30 = .ok (.ireturn, 1) := by decide +kernel
theorem dX10_spoke_31 : decode cX10_spoke 31 = .ok (.iconst 0, 1) := by decide +kernel
theorem dX10_spoke_32 : decode cX10_spoke 32 = .ok (.istore_n 3, 1) := by decide +kernel
theorem dX10_spoke_33 : decode cX10_spoke 33 = .ok (.iconst 1, 1) := by decide +kernel
theorem dX10_spoke_34 : decode cX10_spoke 34 = .ok (.istore 4, 2) := by decide +kernel
theorem dX10_spoke_36 : decode cX10_spoke 36 = .ok (.iload 4, 2) := by decide +kernel
theorem dX10_spoke_38 : decode cX10_spoke 38 = .ok (.aload_n 0, 1) := by decide +kernel
theorem dX10_spoke_39 : decode cX10_spoke 39 = .ok (.getfield 7, 3) := by decide +kernel
theorem dX10_spoke_42 : decode cX10_spoke 42 = .ok (.bipush 62, 2) := by decide +kernel
theorem dX10_spoke_44 : decode cX10_spoke 44 = .ok (.iaload, 1) := by decide +kernel
theorem dX10_spoke_45 : decode cX10_spoke 45 = .ok (.if_icmp .ge 28, 3) := by decide +kernel
theorem dX10_spoke_48 : decode cX10_spoke 48 = .ok (.aload_n 0, 1) := by decide +kernel
theorem dX10_spoke_49 : decode cX10_spoke 49 = .ok (.iload 4, 2) := by decide +kernel
theorem dX10_spoke_51 : decode cX10_spoke 51 = .ok (.iload_n 2, 1) := by decide +kernel
theorem dX10_spoke_52 : decode cX10_spoke 52 = .ok (.invokevirtual 432, 3) := by decide +kernel
theorem dX10_spoke_55 : decode cX10_spoke 55 = .ok (.aload_n 0, 1) := by decide +kernel
theorem dX10_spoke_56 : decode cX10_spoke 56 = .ok (.iload_n 3, 1) := by decide +kernel
theorem dX10_spoke_57 : decode cX10_spoke 57 = .ok (.iload_n 2, 1) := by decide +kernel
theorem dX10_spoke_58 : decode cX10_spoke 58 = .ok (.invokevirtual 432, 3) := by decide +kernel
theorem dX10_spoke_61 : decode cX10_spoke 61 = .ok (.if_icmp .ge 6, 3) := by decide +kernel
theorem dX10_spoke_64 : decode cX10_spoke 64 = .ok (.iload 4, 2) := by decide +kernel
theorem dX10_spoke_66 : decode cX10_spoke 66 = .ok (.istore_n 3, 1) := by decide +kernel
theorem dX10_spoke_67 : decode cX10_spoke 67 = .ok (.iinc 4 1, 3) := by decide +kernel
theorem dX10_spoke_70 : decode cX10_spoke 70 = .ok (.goto (-34), 3) := by decide +kernel
theorem dX10_spoke_73 : decode cX10_spoke 73 = .ok (.iload_n 3, 1) := by decide +kernel
theorem dX10_spoke_74 : decode cX10_spoke 74 = .ok (.ireturn, 1) := by decide +kernel
theorem dX10_graspsOf_0 : decode cX10_graspsOf 0 = .ok (.aload_n 0, 1) := by decide +kernel
theorem dX10_graspsOf_1 : decode cX10_graspsOf 1 = .ok (.aload_n 0, 1) := by decide +kernel
theorem dX10_graspsOf_2 : decode cX10_graspsOf 2 = .ok (.getfield 7, 3) := by decide +kernel
theorem dX10_graspsOf_5 : decode cX10_graspsOf 5 = .ok (.bipush 42, 2) := by decide +kernel
theorem dX10_graspsOf_7 : decode cX10_graspsOf 7 = .ok (.iload_n 1, 1) := by decide +kernel
theorem dX10_graspsOf_8 : decode cX10_graspsOf 8 = .ok (.iadd, 1) := by decide +kernel
theorem dX10_graspsOf_9 : decode cX10_graspsOf 9 = .ok (.iaload, 1) := by decide +kernel
theorem dX10_graspsOf_10 : decode cX10_graspsOf 10 = .ok (.aload_n 0, 1) := by decide +kernel
theorem dX10_graspsOf_11 : decode cX10_graspsOf 11 = .ok (.getfield 7, 3) := by decide +kernel
theorem dX10_graspsOf_14 : decode cX10_graspsOf 14 = .ok (.bipush 42, 2) := by decide +kernel
theorem dX10_graspsOf_16 : decode cX10_graspsOf 16 = .ok (.iload_n 2, 1) := by decide +kernel
theorem dX10_graspsOf_17 : decode cX10_graspsOf 17 = .ok (.iadd, 1) := by decide +kernel
theorem dX10_graspsOf_18 : decode cX10_graspsOf 18 = .ok (.iaload, 1) := by decide +kernel
theorem dX10_graspsOf_19 : decode cX10_graspsOf 19 = .ok (.iand, 1) := by decide +kernel
theorem dX10_graspsOf_20 : decode cX10_graspsOf 20 = .ok (.invokevirtual 388, 3) := by decide +kernel
theorem dX10_graspsOf_23 : decode cX10_graspsOf 23 = .ok (.invokestatic 291, 3) := by decide +kernel
theorem dX10_graspsOf_26 : decode cX10_graspsOf 26 = .ok (.ireturn, 1) := by decide +kernel
theorem dX10_grasps_0 : decode cX10_grasps 0 = .ok (.aload_n 0, 1) := by decide +kernel
theorem dX10_grasps_1 : decode cX10_grasps 1 = .ok (.iload_n 1, 1) := by decide +kernel
theorem dX10_grasps_2 : decode cX10_grasps 2 = .ok (.invokevirtual 75, 3) := by decide +kernel
theorem dX10_grasps_5 : decode cX10_grasps 5 = .ok (.ifCond .eq 20, 3) := by decide +kernel
theorem dX10_grasps_8 : decode cX10_grasps 8 = .ok (.aload_n 0, 1) := by decide +kernel
theorem dX10_grasps_9 : decode cX10_grasps 9 = .ok (.iload_n 2, 1) := by decide +kernel
theorem dX10_grasps_10 : decode cX10_grasps 10 = .ok (.invokevirtual 75, 3) := by decide +kernel
theorem dX10_grasps_13 : decode cX10_grasps 13 = .ok (.ifCond .eq 12, 3) := by decide +kernel
theorem dX10_grasps_16 : decode cX10_grasps 16 = .ok (.aload_n 0, 1) := by decide +kernel
theorem dX10_grasps_17 : decode cX10_grasps 17 = .ok (.iload_n 1, 1) := by decide +kernel
theorem dX10_grasps_18 : decode cX10_grasps 18 = .ok (.iload_n 2, 1) := by decide +kernel
theorem dX10_grasps_19 : decode cX10_grasps 19 = .ok (.invokevirtual 435, 3) := by decide +kernel
theorem dX10_grasps_22 : decode cX10_grasps 22 = .ok (.goto 4, 3) := by decide +kernel
theorem dX10_grasps_25 : decode cX10_grasps 25 = .ok (.iconst (-1), 1) := by decide +kernel
theorem dX10_grasps_26 : decode cX10_grasps 26 = .ok (.ireturn, 1) := by decide +kernel
theorem dX10_circle_0 : decode cX10_circle 0 = .ok (.aload_n 0, 1) := by decide +kernel
theorem dX10_circle_1 : decode cX10_circle 1 = .ok (.iload_n 1, 1) := by decide +kernel
theorem dX10_circle_2 : decode cX10_circle 2 = .ok (.invokevirtual 75, 3) := by decide +kernel
theorem dX10_circle_5 : decode cX10_circle 5 = .ok (.ifCond .ne 5, 3) := by decide +kernel
theorem dX10_circle_8 : decode cX10_circle 8 = .ok (.iconst (-1), 1) := by decide +kernel
theorem dX10_circle_9 : decode cX10_circle 9 = .ok (.ireturn, 1) := by decide +kernel
theorem dX10_circle_10 : decode cX10_circle 10 = .ok (.iconst 1, 1) := by decide +kernel
theorem dX10_circle_11 : decode cX10_circle 11 = .ok (.iload_n 1, 1) := by decide +kernel
theorem dX10_circle_12 : decode cX10_circle 12 = .ok (.ishl, 1) := by decide +kernel
theorem dX10_circle_13 : decode cX10_circle 13 = .ok (.istore_n 2, 1) := by decide +kernel
theorem dX10_circle_14 : decode cX10_circle 14 = .ok (.iconst 0, 1) := by decide +kernel
theorem dX10_circle_15 : decode cX10_circle 15 = .ok (.istore_n 3, 1) := by decide +kernel
theorem dX10_circle_16 : decode cX10_circle 16 = .ok (.iload_n 3, 1) := by decide +kernel
theorem dX10_circle_17 : decode cX10_circle 17 = .ok (.bipush 10, 2) := by decide +kernel
theorem dX10_circle_19 : decode cX10_circle 19 = .ok (.if_icmp .ge 88, 3) := by decide +kernel
theorem dX10_circle_22 : decode cX10_circle 22 = .ok (.iconst 0, 1) := by decide +kernel
theorem dX10_circle_23 : decode cX10_circle 23 = .ok (.istore 4, 2) := by decide +kernel
theorem dX10_circle_25 : decode cX10_circle 25 = .ok (.iload 4, 2) := by decide +kernel
theorem dX10_circle_27 : decode cX10_circle 27 = .ok (.aload_n 0, 1) := by decide +kernel
theorem dX10_circle_28 : decode cX10_circle 28 = .ok (.getfield 7, 3) := by decide +kernel
theorem dX10_circle_31 : decode cX10_circle 31 = .ok (.bipush 63, 2) := by decide +kernel
theorem dX10_circle_33 : decode cX10_circle 33 = .ok (.iaload, 1) := by decide +kernel
theorem dX10_circle_34 : decode cX10_circle 34 = .ok (.if_icmp .ge 67, 3) := by decide +kernel
theorem dX10_circle_37 : decode cX10_circle 37 = .ok (.iconst 0, 1) := by decide +kernel
theorem dX10_circle_38 : decode cX10_circle 38 = .ok (.istore 5, 2) := by decide +kernel
theorem dX10_circle_40 : decode cX10_circle 40 = .ok (.iload 5, 2) := by decide +kernel
theorem dX10_circle_42 : decode cX10_circle 42 = .ok (.aload_n 0, 1) := by decide +kernel
theorem dX10_circle_43 : decode cX10_circle 43 = .ok (.getfield 7, 3) := by decide +kernel
theorem dX10_circle_46 : decode cX10_circle 46 = .ok (.bipush 63, 2) := by decide +kernel
theorem dX10_circle_48 : decode cX10_circle 48 = .ok (.iaload, 1) := by decide +kernel
theorem dX10_circle_49 : decode cX10_circle 49 = .ok (.if_icmp .ge 46, 3) := by decide +kernel
theorem dX10_circle_52 : decode cX10_circle 52 = .ok (.iload_n 2, 1) := by decide +kernel
theorem dX10_circle_53 : decode cX10_circle 53 = .ok (.iload 4, 2) := by decide +kernel
theorem dX10_circle_55 : decode cX10_circle 55 = .ok (.ishr, 1) := by decide +kernel
theorem dX10_circle_56 : decode cX10_circle 56 = .ok (.iconst 1, 1) := by decide +kernel
theorem dX10_circle_57 : decode cX10_circle 57 = .ok (.iand, 1) := by decide +kernel
theorem dX10_circle_58 : decode cX10_circle 58 = .ok (.iconst 1, 1) := by decide +kernel
theorem dX10_circle_59 : decode cX10_circle 59 = .ok (.if_icmp .ne 30, 3) := by decide +kernel
theorem dX10_circle_62 : decode cX10_circle 62 = .ok (.iload_n 2, 1) := by decide +kernel
theorem dX10_circle_63 : decode cX10_circle 63 = .ok (.iload 5, 2) := by decide +kernel
theorem dX10_circle_65 : decode cX10_circle 65 = .ok (.ishr, 1) := by decide +kernel
theorem dX10_circle_66 : decode cX10_circle 66 = .ok (.iconst 1, 1) := by decide +kernel
theorem dX10_circle_67 : decode cX10_circle 67 = .ok (.iand, 1) := by decide +kernel
theorem dX10_circle_68 : decode cX10_circle 68 = .ok (.ifCond .ne 21, 3) := by decide +kernel
theorem dX10_circle_71 : decode cX10_circle 71 = .ok (.aload_n 0, 1) := by decide +kernel
theorem dX10_circle_72 : decode cX10_circle 72 = .ok (.iload 4, 2) := by decide +kernel
theorem dX10_circle_74 : decode cX10_circle 74 = .ok (.iload 5, 2) := by decide +kernel
theorem dX10_circle_76 : decode cX10_circle 76 = .ok (.invokevirtual 435, 3) := by decide +kernel
theorem dX10_circle_79 : decode cX10_circle 79 = .ok (.ifCond .le 10, 3) := by decide +kernel
theorem dX10_circle_82 : decode cX10_circle 82 = .ok (.iload_n 2, 1) := by decide +kernel
theorem dX10_circle_83 : decode cX10_circle 83 = .ok (.iconst 1, 1) := by decide +kernel
theorem dX10_circle_84 : decode cX10_circle 84 = .ok (.iload 5, 2) := by decide +kernel
theorem dX10_circle_86 : decode cX10_circle 86 = .ok (.ishl, 1) := by decide +kernel
theorem dX10_circle_87 : decode cX10_circle 87 = .ok (.ior, 1) := by decide +kernel
theorem dX10_circle_88 : decode cX10_circle 88 = .ok (.istore_n 2, 1) := by decide +kernel
theorem dX10_circle_89 : decode cX10_circle 89 = .ok (.iinc 5 1, 3) := by decide +kernel
theorem dX10_circle_92 : decode cX10_circle 92 = .ok (.goto (-52), 3) := by decide +kernel
theorem dX10_circle_95 : decode cX10_circle 95 = .ok (.iinc 4 1, 3) := by decide +kernel
theorem dX10_circle_98 : decode cX10_circle 98 = .ok (.goto (-73), 3) := by decide +kernel
theorem dX10_circle_101 : decode cX10_circle 101 = .ok (.iinc 3 1, 3) := by decide +kernel
theorem dX10_circle_104 : decode cX10_circle 104 = .ok (.goto (-88), 3) := by decide +kernel
theorem dX10_circle_107 : decode cX10_circle 107 = .ok (.iload_n 2, 1) := by decide +kernel
theorem dX10_circle_108 : decode cX10_circle 108 = .ok (.ireturn, 1) := by decide +kernel
theorem dX10_peopleAt_0 : decode cX10_peopleAt 0 = .ok (.iconst 0, 1) := by decide +kernel
theorem dX10_peopleAt_1 : decode cX10_peopleAt 1 = .ok (.istore_n 2, 1) := by decide +kernel
theorem dX10_peopleAt_2 : decode cX10_peopleAt 2 = .ok (.iconst 0, 1) := by decide +kernel
theorem dX10_peopleAt_3 : decode cX10_peopleAt 3 = .ok (.istore_n 3, 1) := by decide +kernel
theorem dX10_peopleAt_4 : decode cX10_peopleAt 4 = .ok (.iload_n 3, 1) := by decide +kernel
theorem dX10_peopleAt_5 : decode cX10_peopleAt 5 = .ok (.aload_n 0, 1) := by decide +kernel
theorem dX10_peopleAt_6 : decode cX10_peopleAt 6 = .ok (.getfield 7, 3) := by decide +kernel
theorem dX10_peopleAt_9 : decode cX10_peopleAt 9 = .ok (.bipush 63, 2) := by decide +kernel
theorem dX10_peopleAt_11 : decode cX10_peopleAt 11 = .ok (.iaload, 1) := by decide +kernel
theorem dX10_peopleAt_12 : decode cX10_peopleAt 12 = .ok (.if_icmp .ge 32, 3) := by decide +kernel
theorem dX10_peopleAt_15 : decode cX10_peopleAt 15 = .ok (.iload_n 2, 1) := by decide +kernel
theorem dX10_peopleAt_16 : decode cX10_peopleAt 16 = .ok (.aload_n 0, 1) := by decide +kernel
theorem dX10_peopleAt_17 : decode cX10_peopleAt 17 = .ok (.getfield 7, 3) := by decide +kernel
theorem dX10_peopleAt_20 : decode cX10_peopleAt 20 = .ok (.bipush 32, 2) := by decide +kernel
theorem dX10_peopleAt_22 : decode cX10_peopleAt 22 = .ok (.iload_n 3, 1) := by decide +kernel
theorem dX10_peopleAt_23 : decode cX10_peopleAt 23 = .ok (.iadd, 1) := by decide +kernel
theorem dX10_peopleAt_24 : decode cX10_peopleAt 24 = .ok (.iaload, 1) := by decide +kernel
theorem dX10_peopleAt_25 : decode cX10_peopleAt 25 = .ok (.iload_n 1, 1) := by decide +kernel
theorem dX10_peopleAt_26 : decode cX10_peopleAt 26 = .ok (.if_icmp .ne 9, 3) := by decide +kernel
theorem dX10_peopleAt_29 : decode cX10_peopleAt 29 = .ok (.iconst 1, 1) := by decide +kernel
theorem dX10_peopleAt_30 : decode cX10_peopleAt 30 = .ok (.iload_n 3, 1) := by decide +kernel
theorem dX10_peopleAt_31 : decode cX10_peopleAt 31 = .ok (.ishl, 1) := by decide +kernel
theorem dX10_peopleAt_32 : decode cX10_peopleAt 32 = .ok (.goto 4, 3) := by decide +kernel
theorem dX10_peopleAt_35 : decode cX10_peopleAt 35 = .ok (.iconst 0, 1) := by decide +kernel
theorem dX10_peopleAt_36 : decode cX10_peopleAt 36 = .ok (.ior, 1) := by decide +kernel
theorem dX10_peopleAt_37 : decode cX10_peopleAt 37 = .ok (.istore_n 2, 1) := by decide +kernel
theorem dX10_peopleAt_38 : decode cX10_peopleAt 38 = .ok (.iinc 3 1, 3) := by decide +kernel
theorem dX10_peopleAt_41 : decode cX10_peopleAt 41 = .ok (.goto (-37), 3) := by decide +kernel
theorem dX10_peopleAt_44 : decode cX10_peopleAt 44 = .ok (.iload_n 2, 1) := by decide +kernel
theorem dX10_peopleAt_45 : decode cX10_peopleAt 45 = .ok (.ireturn, 1) := by decide +kernel
theorem dX10_sharedBy_0 : decode cX10_sharedBy 0 = .ok (.iload_n 1, 1) := by decide +kernel
theorem dX10_sharedBy_1 : decode cX10_sharedBy 1 = .ok (.ifCond .ne 7, 3) := by decide +kernel
theorem dX10_sharedBy_4 : decode cX10_sharedBy 4 = .ok (.iconst 0, 1) := by decide +kernel
theorem dX10_sharedBy_5 : decode cX10_sharedBy 5 = .ok (.goto 6, 3) := by decide +kernel
theorem dX10_sharedBy_8 : decode cX10_sharedBy 8 = .ok (.sipush 16383, 3) := by decide +kernel
theorem dX10_sharedBy_11 : decode cX10_sharedBy 11 = .ok (.istore_n 2, 1) := by decide +kernel
theorem dX10_sharedBy_12 : decode cX10_sharedBy 12 = .ok (.iconst 0, 1) := by decide +kernel
theorem dX10_sharedBy_13 : decode cX10_sharedBy 13 = .ok (.istore_n 3, 1) := by decide +kernel
theorem dX10_sharedBy_14 : decode cX10_sharedBy 14 = .ok (.iload_n 3, 1) := by decide +kernel
theorem dX10_sharedBy_15 : decode cX10_sharedBy 15 = .ok (.aload_n 0, 1) := by decide +kernel
theorem dX10_sharedBy_16 : decode cX10_sharedBy 16 = .ok (.getfield 7, 3) := by decide +kernel
theorem dX10_sharedBy_19 : decode cX10_sharedBy 19 = .ok (.bipush 63, 2) := by decide +kernel
theorem dX10_sharedBy_21 : decode cX10_sharedBy 21 = .ok (.iaload, 1) := by decide +kernel
theorem dX10_sharedBy_22 : decode cX10_sharedBy 22 = .ok (.if_icmp .ge 34, 3) := by decide +kernel
theorem dX10_sharedBy_25 : decode cX10_sharedBy 25 = .ok (.iload_n 2, 1) := by decide +kernel
theorem dX10_sharedBy_26 : decode cX10_sharedBy 26 = .ok (.iload_n 1, 1) := by decide +kernel
theorem dX10_sharedBy_27 : decode cX10_sharedBy 27 = .ok (.iload_n 3, 1) := by decide +kernel
theorem dX10_sharedBy_28 : decode cX10_sharedBy 28 = .ok (.ishr, 1) := by decide +kernel
theorem dX10_sharedBy_29 : decode cX10_sharedBy 29 = .ok (.iconst 1, 1) := by decide +kernel
theorem dX10_sharedBy_30 : decode cX10_sharedBy 30 = .ok (.iand, 1) := by decide +kernel
theorem dX10_sharedBy_31 : decode cX10_sharedBy 31 = .ok (.iconst 1, 1) := by decide +kernel
theorem dX10_sharedBy_32 : decode cX10_sharedBy 32 = .ok (.if_icmp .ne 15, 3) := by decide +kernel
theorem dX10_sharedBy_35 : decode cX10_sharedBy 35 = .ok (.aload_n 0, 1) := by decide +kernel
theorem dX10_sharedBy_36 : decode cX10_sharedBy 36 = .ok (.getfield 7, 3) := by decide +kernel
theorem dX10_sharedBy_39 : decode cX10_sharedBy 39 = .ok (.bipush 42, 2) := by decide +kernel
theorem dX10_sharedBy_41 : decode cX10_sharedBy 41 = .ok (.iload_n 3, 1) := by decide +kernel
theorem dX10_sharedBy_42 : decode cX10_sharedBy 42 = .ok (.iadd, 1) := by decide +kernel
theorem dX10_sharedBy_43 : decode cX10_sharedBy 43 = .ok (.iaload, 1) := by decide +kernel
theorem dX10_sharedBy_44 : decode cX10_sharedBy 44 = .ok (.goto 4, 3) := by decide +kernel
theorem dX10_sharedBy_47 : decode cX10_sharedBy 47 = .ok (.iload_n 2, 1) := by decide +kernel
theorem dX10_sharedBy_48 : decode cX10_sharedBy 48 = .ok (.iand, 1) := by decide +kernel
theorem dX10_sharedBy_49 : decode cX10_sharedBy 49 = .ok (.istore_n 2, 1) := by decide +kernel
theorem dX10_sharedBy_50 : decode cX10_sharedBy 50 = .ok (.iinc 3 1, 3) := by decide +kernel
theorem dX10_sharedBy_53 : decode cX10_sharedBy 53 = .ok (.goto (-39), 3) := by decide +kernel
theorem dX10_sharedBy_56 : decode cX10_sharedBy 56 = .ok (.iload_n 2, 1) := by decide +kernel
theorem dX10_sharedBy_57 : decode cX10_sharedBy 57 = .ok (.ireturn, 1) := by decide +kernel
theorem dX10_crowd_0 : decode cX10_crowd 0 = .ok (.iload_n 1, 1) := by decide +kernel
theorem dX10_crowd_1 : decode cX10_crowd 1 = .ok (.iconst 0, 1) := by decide +kernel
theorem dX10_crowd_2 : decode cX10_crowd 2 = .ok (.iconst 2, 1) := by decide +kernel
theorem dX10_crowd_3 : decode cX10_crowd 3 = .ok (.invokestatic 59, 3) := by decide +kernel
theorem dX10_crowd_6 : decode cX10_crowd 6 = .ok (.ifCond .ne 5, 3) := by decide +kernel
theorem dX10_crowd_9 : decode cX10_crowd 9 = .ok (.iconst (-1), 1) := by decide +kernel
theorem dX10_crowd_10 : decode cX10_crowd 10 = .ok (.ireturn, 1) := by decide +kernel
theorem dX10_crowd_11 : decode cX10_crowd 11 = .ok (.iconst 0, 1) := by decide +kernel
theorem dX10_crowd_12 : decode cX10_crowd 12 = .ok (.istore_n 2, 1) := by decide +kernel
theorem dX10_crowd_13 : decode cX10_crowd 13 = .ok (.iconst 1, 1) := by decide +kernel
theorem dX10_crowd_14 : decode cX10_crowd 14 = .ok (.istore_n 3, 1) := by decide +kernel
theorem dX10_crowd_15 : decode cX10_crowd 15 = .ok (.iload_n 3, 1) := by decide +kernel
theorem dX10_crowd_16 : decode cX10_crowd 16 = .ok (.bipush 10, 2) := by decide +kernel
theorem dX10_crowd_18 : decode cX10_crowd 18 = .ok (.if_icmp .ge 30, 3) := by decide +kernel
theorem dX10_crowd_21 : decode cX10_crowd 21 = .ok (.aload_n 0, 1) := by decide +kernel
theorem dX10_crowd_22 : decode cX10_crowd 22 = .ok (.iload_n 3, 1) := by decide +kernel
theorem dX10_crowd_23 : decode cX10_crowd 23 = .ok (.invokevirtual 438, 3) := by decide +kernel
theorem dX10_crowd_26 : decode cX10_crowd 26 = .ok (.invokestatic 291, 3) := by decide +kernel
theorem dX10_crowd_29 : decode cX10_crowd 29 = .ok (.aload_n 0, 1) := by decide +kernel
theorem dX10_crowd_30 : decode cX10_crowd 30 = .ok (.iload_n 2, 1) := by decide +kernel
theorem dX10_crowd_31 : decode cX10_crowd 31 = .ok (.invokevirtual 438, 3) := by decide +kernel
theorem dX10_crowd_34 : decode cX10_crowd 34 = .ok (.invokestatic 291, 3) := by decide +kernel
theorem dX10_crowd_37 : decode cX10_crowd 37 = .ok (.if_icmp .le 5, 3) := by decide +kernel
theorem dX10_crowd_40 : decode cX10_crowd 40 = .ok (.iload_n 3, 1) := by decide +kernel
theorem dX10_crowd_41 : decode cX10_crowd 41 = .ok (.istore_n 2, 1) := by decide +kernel
theorem dX10_crowd_42 : decode cX10_crowd 42 = .ok (.iinc 3 1, 3) := by decide +kernel
theorem dX10_crowd_45 : decode cX10_crowd 45 = .ok (.goto (-30), 3) := by decide +kernel
theorem dX10_crowd_48 : decode cX10_crowd 48 = .ok (.iload_n 1, 1) := by decide +kernel
theorem dX10_crowd_49 : decode cX10_crowd 49 = .ok (.ifCond .ne 7, 3) := by decide +kernel
theorem dX10_crowd_52 : decode cX10_crowd 52 = .ok (.iload_n 2, 1) := by decide +kernel
theorem dX10_crowd_53 : decode cX10_crowd 53 = .ok (.goto 31, 3) := by decide +kernel
theorem dX10_crowd_56 : decode cX10_crowd 56 = .ok (.iload_n 1, 1) := by decide +kernel
theorem dX10_crowd_57 : decode cX10_crowd 57 = .ok (.iconst 1, 1) := by decide +kernel
theorem dX10_crowd_58 : decode cX10_crowd 58 = .ok (.if_icmp .ne 14, 3) := by decide +kernel
theorem dX10_crowd_61 : decode cX10_crowd 61 = .ok (.aload_n 0, 1) := by decide +kernel
theorem dX10_crowd_62 : decode cX10_crowd 62 = .ok (.iload_n 2, 1) := by decide +kernel
theorem dX10_crowd_63 : decode cX10_crowd 63 = .ok (.invokevirtual 438, 3) := by decide +kernel
theorem dX10_crowd_66 : decode cX10_crowd 66 = .ok (.invokestatic 291, 3) := by decide +kernel
theorem dX10_crowd_69 : decode cX10_crowd 69 = .ok (.goto 15, 3) := by decide +kernel
theorem dX10_crowd_72 : decode cX10_crowd 72 = .ok (.aload_n 0, 1) := by decide +kernel
theorem dX10_crowd_73 : decode cX10_crowd 73 = .ok (.aload_n 0, 1) := by decide +kernel
theorem dX10_crowd_74 : decode cX10_crowd 74 = .ok (.iload_n 2, 1) := by decide +kernel
theorem dX10_crowd_75 : decode cX10_crowd 75 = .ok (.invokevirtual 438, 3) := by decide +kernel
theorem dX10_crowd_78 : decode cX10_crowd 78 = .ok (.invokevirtual 441, 3) := by decide +kernel
theorem dX10_crowd_81 : decode cX10_crowd 81 = .ok (.invokestatic 291, 3) := by decide +kernel
theorem dX10_crowd_84 : decode cX10_crowd 84 = .ok (.ireturn, 1) := by decide +kernel
theorem dX10_odds_0 : decode cX10_odds 0 = .ok (.iload_n 1, 1) := by decide +kernel
theorem dX10_odds_1 : decode cX10_odds 1 = .ok (.iconst 1, 1) := by decide +kernel
theorem dX10_odds_2 : decode cX10_odds 2 = .ok (.bipush 60, 2) := by decide +kernel
theorem dX10_odds_4 : decode cX10_odds 4 = .ok (.invokestatic 59, 3) := by decide +kernel
theorem dX10_odds_7 : decode cX10_odds 7 = .ok (.ifCond .eq 13, 3) := by decide +kernel
theorem dX10_odds_10 : decode cX10_odds 10 = .ok (.iload_n 2, 1) := by decide +kernel
theorem dX10_odds_11 : decode cX10_odds 11 = .ok (.iconst 0, 1) := by decide +kernel
theorem dX10_odds_12 : decode cX10_odds 12 = .ok (.bipush 9, 2) := by decide +kernel
theorem dX10_odds_14 : decode cX10_odds 14 = .ok (.invokestatic 59, 3) := by decide +kernel
theorem dX10_odds_17 : decode cX10_odds 17 = .ok (.ifCond .ne 5, 3) := by decide +kernel
theorem dX10_odds_20 : decode cX10_odds 20 = .ok (.iconst (-1), 1) := by decide +kernel
theorem dX10_odds_21 : decode cX10_odds 21 = .ok (.ireturn, 1) := by decide +kernel
theorem dX10_odds_22 : decode cX10_odds 22 = .ok (.ldc_w 425, 3) := by decide +kernel
theorem dX10_odds_25 : decode cX10_odds 25 = .ok (.istore_n 3, 1) := by decide +kernel
theorem dX10_odds_26 : decode cX10_odds 26 = .ok (.iconst 0, 1) := by decide +kernel
theorem dX10_odds_27 : decode cX10_odds 27 = .ok (.istore 4, 2) := by decide +kernel
theorem dX10_odds_29 : decode cX10_odds 29 = .ok (.iload 4, 2) := by decide +kernel
theorem dX10_odds_31 : decode cX10_odds 31 = .ok (.iload_n 1, 1) := by decide +kernel
theorem dX10_odds_32 : decode cX10_odds 32 = .ok (.iload_n 2, 1) := by decide +kernel
theorem dX10_odds_33 : decode cX10_odds 33 = .ok (.imul, 1) := by decide +kernel
theorem dX10_odds_34 : decode cX10_odds 34 = .ok (.if_icmp .ge 49, 3) := by decide +kernel
theorem dX10_odds_37 : decode cX10_odds 37 = .ok (.iload_n 3, 1) := by decide +kernel
