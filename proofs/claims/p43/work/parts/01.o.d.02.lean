theorem dX9_init_71 : decode cX9_init 71 = .ok (.iconst 0, 1) := by decide +kernel
theorem dX9_init_72 : decode cX9_init 72 = .ok (.putfield 43, 3) := by decide +kernel
theorem dX9_init_75 : decode cX9_init 75 = .ok (.return_, 1) := by decide +kernel
theorem dX9_state_0 : decode cX9_state 0 = .ok (.aload_n 0, 1) := by decide +kernel
theorem dX9_state_1 : decode cX9_state 1 = .ok (.getfield 12, 3) := by decide +kernel
theorem dX9_state_4 : decode cX9_state 4 = .ok (.getfield 47, 3) := by decide +kernel
theorem dX9_state_7 : decode cX9_state 7 = .ok (.getfield 51, 3) := by decide +kernel
theorem dX9_state_10 : decode cX9_state 10 = .ok (.istore_n 2, 1) := by decide +kernel
theorem dX9_state_11 : decode cX9_state 11 = .ok (.aload_n 0, 1) := by decide +kernel
theorem dX9_state_12 : decode cX9_state 12 = .ok (.getfield 12, 3) := by decide +kernel
theorem dX9_state_15 : decode cX9_state 15 = .ok (.getfield 47, 3) := by decide +kernel
theorem dX9_state_18 : decode cX9_state 18 = .ok (.iload_n 1, 1) := by decide +kernel
theorem dX9_state_19 : decode cX9_state 19 = .ok (.putfield 51, 3) := by decide +kernel
theorem dX9_state_22 : decode cX9_state 22 = .ok (.aload_n 0, 1) := by decide +kernel
theorem dX9_state_23 : decode cX9_state 23 = .ok (.getfield 25, 3) := by decide +kernel
theorem dX9_state_26 : decode cX9_state 26 = .ok (.invokevirtual 57, 3) := by decide +kernel
theorem dX9_state_29 : decode cX9_state 29 = .ok (.iload_n 2, 1) := by decide +kernel
theorem dX9_state_30 : decode cX9_state 30 = .ok (.ireturn, 1) := by decide +kernel
theorem dX9_word_0 : decode cX9_word 0 = .ok (.iload_n 1, 1) := by decide +kernel
theorem dX9_word_1 : decode cX9_word 1 = .ok (.iconst 1, 1) := by decide +kernel
theorem dX9_word_2 : decode cX9_word 2 = .ok (.if_icmp .lt 21, 3) := by decide +kernel
theorem dX9_word_5 : decode cX9_word 5 = .ok (.iload_n 1, 1) := by decide +kernel
theorem dX9_word_6 : decode cX9_word 6 = .ok (.bipush 20, 2) := by decide +kernel
theorem dX9_word_8 : decode cX9_word 8 = .ok (.if_icmp .gt 15, 3) := by decide +kernel
theorem dX9_word_11 : decode cX9_word 11 = .ok (.aload_n 0, 1) := by decide +kernel
theorem dX9_word_12 : decode cX9_word 12 = .ok (.getfield 12, 3) := by decide +kernel
theorem dX9_word_15 : decode cX9_word 15 = .ok (.getfield 60, 3) := by decide +kernel
theorem dX9_word_18 : decode cX9_word 18 = .ok (.bipush 14, 2) := by decide +kernel
theorem dX9_word_20 : decode cX9_word 20 = .ok (.if_icmp .lt 5, 3) := by decide +kernel
theorem dX9_word_23 : decode cX9_word 23 = .ok (.iconst (-1), 1) := by decide +kernel
theorem dX9_word_24 : decode cX9_word 24 = .ok (.ireturn, 1) := by decide +kernel
theorem dX9_word_25 : decode cX9_word 25 = .ok (.aload_n 0, 1) := by decide +kernel
theorem dX9_word_26 : decode cX9_word 26 = .ok (.getfield 25, 3) := by decide +kernel
theorem dX9_word_29 : decode cX9_word 29 = .ok (.invokevirtual 57, 3) := by decide +kernel
theorem dX9_word_32 : decode cX9_word 32 = .ok (.aload_n 0, 1) := by decide +kernel
theorem dX9_word_33 : decode cX9_word 33 = .ok (.getfield 12, 3) := by decide +kernel
theorem dX9_word_36 : decode cX9_word 36 = .ok (.iload_n 1, 1) := by decide +kernel
theorem dX9_word_37 : decode cX9_word 37 = .ok (.invokevirtual 63, 3) := by decide +kernel
theorem dX9_word_40 : decode cX9_word 40 = .ok (.ireturn, 1) := by decide +kernel
theorem dX9_person_0 : decode cX9_person 0 = .ok (.iload_n 1, 1) := by decide +kernel
theorem dX9_person_1 : decode cX9_person 1 = .ok (.invokestatic 67, 3) := by decide +kernel
theorem dX9_person_4 : decode cX9_person 4 = .ok (.ifCond .eq 15, 3) := by decide +kernel
theorem dX9_person_7 : decode cX9_person 7 = .ok (.aload_n 0, 1) := by decide +kernel
theorem dX9_person_8 : decode cX9_person 8 = .ok (.getfield 12, 3) := by decide +kernel
theorem dX9_person_11 : decode cX9_person 11 = .ok (.getfield 71, 3) := by decide +kernel
theorem dX9_person_14 : decode cX9_person 14 = .ok (.bipush 10, 2) := by decide +kernel
theorem dX9_person_16 : decode cX9_person 16 = .ok (.if_icmp .lt 5, 3) := by decide +kernel
theorem dX9_person_19 : decode cX9_person 19 = .ok (.iconst (-1), 1) := by decide +kernel
theorem dX9_person_20 : decode cX9_person 20 = .ok (.ireturn, 1) := by decide +kernel
theorem dX9_person_21 : decode cX9_person 21 = .ok (.aload_n 0, 1) := by decide +kernel
theorem dX9_person_22 : decode cX9_person 22 = .ok (.getfield 25, 3) := by decide +kernel
theorem dX9_person_25 : decode cX9_person 25 = .ok (.invokevirtual 57, 3) := by decide +kernel
theorem dX9_person_28 : decode cX9_person 28 = .ok (.aload_n 0, 1) := by decide +kernel
theorem dX9_person_29 : decode cX9_person 29 = .ok (.getfield 12, 3) := by decide +kernel
theorem dX9_person_32 : decode cX9_person 32 = .ok (.iload_n 1, 1) := by decide +kernel
theorem dX9_person_33 : decode cX9_person 33 = .ok (.invokevirtual 74, 3) := by decide +kernel
theorem dX9_person_36 : decode cX9_person 36 = .ok (.ireturn, 1) := by decide +kernel
theorem dX9_set_0 : decode cX9_set 0 = .ok (.iload_n 1, 1) := by decide +kernel
theorem dX9_set_1 : decode cX9_set 1 = .ok (.ifCond .ne 24, 3) := by decide +kernel
theorem dX9_set_4 : decode cX9_set 4 = .ok (.iload_n 3, 1) := by decide +kernel
theorem dX9_set_5 : decode cX9_set 5 = .ok (.sipush 1000, 3) := by decide +kernel
theorem dX9_set_8 : decode cX9_set 8 = .ok (.invokestatic 77, 3) := by decide +kernel
theorem dX9_set_11 : decode cX9_set 11 = .ok (.ifCond .eq 14, 3) := by decide +kernel
theorem dX9_set_14 : decode cX9_set 14 = .ok (.aload_n 0, 1) := by decide +kernel
theorem dX9_set_15 : decode cX9_set 15 = .ok (.getfield 12, 3) := by decide +kernel
theorem dX9_set_18 : decode cX9_set 18 = .ok (.iload_n 3, 1) := by decide +kernel
theorem dX9_set_19 : decode cX9_set 19 = .ok (.putfield 81, 3) := by decide +kernel
theorem dX9_set_22 : decode cX9_set 22 = .ok (.goto 88, 3) := by decide +kernel
theorem dX9_set_25 : decode cX9_set 25 = .ok (.iload_n 1, 1) := by decide +kernel
theorem dX9_set_26 : decode cX9_set 26 = .ok (.iconst 1, 1) := by decide +kernel
theorem dX9_set_27 : decode cX9_set 27 = .ok (.if_icmp .ne 39, 3) := by decide +kernel
theorem dX9_set_30 : decode cX9_set 30 = .ok (.aload_n 0, 1) := by decide +kernel
theorem dX9_set_31 : decode cX9_set 31 = .ok (.getfield 12, 3) := by decide +kernel
theorem dX9_set_34 : decode cX9_set 34 = .ok (.iload_n 2, 1) := by decide +kernel
theorem dX9_set_35 : decode cX9_set 35 = .ok (.invokevirtual 84, 3) := by decide +kernel
theorem dX9_set_38 : decode cX9_set 38 = .ok (.ifCond .eq 28, 3) := by decide +kernel
theorem dX9_set_41 : decode cX9_set 41 = .ok (.iload_n 3, 1) := by decide +kernel
theorem dX9_set_42 : decode cX9_set 42 = .ok (.bipush 99, 2) := by decide +kernel
theorem dX9_set_44 : decode cX9_set 44 = .ok (.invokestatic 77, 3) := by decide +kernel
theorem dX9_set_47 : decode cX9_set 47 = .ok (.ifCond .eq 19, 3) := by decide +kernel
theorem dX9_set_50 : decode cX9_set 50 = .ok (.aload_n 0, 1) := by decide +kernel
theorem dX9_set_51 : decode cX9_set 51 = .ok (.getfield 12, 3) := by decide +kernel
theorem dX9_set_54 : decode cX9_set 54 = .ok (.getfield 47, 3) := by decide +kernel
theorem dX9_set_57 : decode cX9_set 57 = .ok (.getfield 87, 3) := by decide +kernel
theorem dX9_set_60 : decode cX9_set 60 = .ok (.iload_n 2, 1) := by decide +kernel
theorem dX9_set_61 : decode cX9_set 61 = .ok (.iload_n 3, 1) := by decide +kernel
theorem dX9_set_62 : decode cX9_set 62 = .ok (.iastore, 1) := by decide +kernel
theorem dX9_set_63 : decode cX9_set 63 = .ok (.goto 47, 3) := by decide +kernel
theorem dX9_set_66 : decode cX9_set 66 = .ok (.iload_n 1, 1) := by decide +kernel
theorem dX9_set_67 : decode cX9_set 67 = .ok (.iconst 2, 1) := by decide +kernel
theorem dX9_set_68 : decode cX9_set 68 = .ok (.if_icmp .ne 40, 3) := by decide +kernel
theorem dX9_set_71 : decode cX9_set 71 = .ok (.aload_n 0, 1) := by decide +kernel
theorem dX9_set_72 : decode cX9_set 72 = .ok (.getfield 12, 3) := by decide +kernel
theorem dX9_set_75 : decode cX9_set 75 = .ok (.iload_n 2, 1) := by decide +kernel
theorem dX9_set_76 : decode cX9_set 76 = .ok (.invokevirtual 91, 3) := by decide +kernel
theorem dX9_set_79 : decode cX9_set 79 = .ok (.ifCond .eq 29, 3) := by decide +kernel
theorem dX9_set_82 : decode cX9_set 82 = .ok (.iload_n 3, 1) := by decide +kernel
theorem dX9_set_83 : decode cX9_set 83 = .ok (.sipush 9999, 3) := by decide +kernel
theorem dX9_set_86 : decode cX9_set 86 = .ok (.invokestatic 77, 3) := by decide +kernel
theorem dX9_set_89 : decode cX9_set 89 = .ok (.ifCond .eq 19, 3) := by decide +kernel
theorem dX9_set_92 : decode cX9_set 92 = .ok (.aload_n 0, 1) := by decide +kernel
theorem dX9_set_93 : decode cX9_set 93 = .ok (.getfield 12, 3) := by decide +kernel
theorem dX9_set_96 : decode cX9_set 96 = .ok (.getfield 47, 3) := by decide +kernel
theorem dX9_set_99 : decode cX9_set 99 = .ok (.getfield 94, 3) := by decide +kernel
theorem dX9_set_102 : decode cX9_set 102 = .ok (.iload_n 2, 1) := by decide +kernel
theorem dX9_set_103 : decode cX9_set 103 = .ok (.iload_n 3, 1) := by decide +kernel
theorem dX9_set_104 : decode cX9_set 104 = .ok (.iastore, 1) := by decide +kernel
theorem dX9_set_105 : decode cX9_set 105 = .ok (.goto 5, 3) := by decide +kernel
theorem dX9_set_108 : decode cX9_set 108 = .ok (.iconst 0, 1) := by decide +kernel
theorem dX9_set_109 : decode cX9_set 109 = .ok (.ireturn, 1) := by decide +kernel
theorem dX9_set_110 : decode cX9_set 110 = .ok (.aload_n 0, 1) := by decide +kernel
theorem dX9_set_111 : decode cX9_set 111 = .ok (.getfield 25, 3) := by decide +kernel
theorem dX9_set_114 : decode cX9_set 114 = .ok (.invokevirtual 57, 3) := by decide +kernel
theorem dX9_set_117 : decode cX9_set 117 = .ok (.iconst 1, 1) := by decide +kernel
theorem dX9_set_118 : decode cX9_set 118 = .ok (.ireturn, 1) := by decide +kernel
theorem dX9_isUpTo_0 : decode cX9_isUpTo 0 = .ok (.iload_n 0, 1) := by decide +kernel
theorem dX9_isUpTo_1 : decode cX9_isUpTo 1 = .ok (.ifCond .lt 12, 3) := by decide +kernel
theorem dX9_isUpTo_4 : decode cX9_isUpTo 4 = .ok (.iload_n 0, 1) := by decide +kernel
theorem dX9_isUpTo_5 : decode cX9_isUpTo 5 = .ok (.iload_n 1, 1) := by decide +kernel
theorem dX9_isUpTo_6 : decode cX9_isUpTo 6 = .ok (.if_icmp .gt 7, 3) := by decide +kernel
theorem dX9_isUpTo_9 : decode cX9_isUpTo 9 = .ok (.iconst 1, 1) := by decide +kernel
theorem dX9_isUpTo_10 : decode cX9_isUpTo 10 = .ok (.goto 4, 3) := by decide +kernel
theorem dX9_isUpTo_13 : decode cX9_isUpTo 13 = .ok (.iconst 0, 1) := by decide +kernel
theorem dX9_isUpTo_14 : decode cX9_isUpTo 14 = .ok (.ireturn, 1) := by decide +kernel
theorem dX9_kin_0 : decode cX9_kin 0 = .ok (.aload_n 0, 1) := by decide +kernel
theorem dX9_kin_1 : decode cX9_kin 1 = .ok (.getfield 12, 3) := by decide +kernel
theorem dX9_kin_4 : decode cX9_kin 4 = .ok (.iload_n 1, 1) := by decide +kernel
theorem dX9_kin_5 : decode cX9_kin 5 = .ok (.invokevirtual 91, 3) := by decide +kernel
theorem dX9_kin_8 : decode cX9_kin 8 = .ok (.ifCond .eq 19, 3) := by decide +kernel
theorem dX9_kin_11 : decode cX9_kin 11 = .ok (.aload_n 0, 1) := by decide +kernel
theorem dX9_kin_12 : decode cX9_kin 12 = .ok (.getfield 12, 3) := by decide +kernel
theorem dX9_kin_15 : decode cX9_kin 15 = .ok (.iload_n 2, 1) := by decide +kernel
theorem dX9_kin_16 : decode cX9_kin 16 = .ok (.invokevirtual 91, 3) := by decide +kernel
theorem dX9_kin_19 : decode cX9_kin 19 = .ok (.ifCond .eq 8, 3) := by decide +kernel
theorem dX9_kin_22 : decode cX9_kin 22 = .ok (.iload_n 1, 1) := by decide +kernel
theorem dX9_kin_23 : decode cX9_kin 23 = .ok (.iload_n 2, 1) := by decide +kernel
theorem dX9_kin_24 : decode cX9_kin 24 = .ok (.if_icmp .ne 5, 3) := by decide +kernel
theorem dX9_kin_27 : decode cX9_kin 27 = .ok (.iconst 0, 1) := by decide +kernel
theorem dX9_kin_28 : decode cX9_kin 28 = .ok (.ireturn, 1) := by decide +kernel
theorem dX9_kin_29 : decode cX9_kin 29 = .ok (.iload_n 3, 1) := by decide +kernel
theorem dX9_kin_30 : decode cX9_kin 30 = .ok (.ifCond .eq 36, 3) := by decide +kernel
theorem dX9_kin_33 : decode cX9_kin 33 = .ok (.aload_n 0, 1) := by decide +kernel
theorem dX9_kin_34 : decode cX9_kin 34 = .ok (.getfield 12, 3) := by decide +kernel
theorem dX9_kin_37 : decode cX9_kin 37 = .ok (.getfield 97, 3) := by decide +kernel
theorem dX9_kin_40 : decode cX9_kin 40 = .ok (.iload_n 1, 1) := by decide +kernel
theorem dX9_kin_41 : decode cX9_kin 41 = .ok (.dup2, 1) := by decide +kernel
theorem dX9_kin_42 : decode cX9_kin 42 = .ok (.iaload, 1) := by decide +kernel
theorem dX9_kin_43 : decode cX9_kin 43 = .ok (.iconst 1, 1) := by decide +kernel
theorem dX9_kin_44 : decode cX9_kin 44 = .ok (.iload_n 2, 1) := by decide +kernel
theorem dX9_kin_45 : decode cX9_kin 45 = .ok (.ishl, 1) := by decide +kernel
theorem dX9_kin_46 : decode cX9_kin 46 = .ok (.ior, 1) := by decide +kernel
theorem dX9_kin_47 : decode cX9_kin 47 = .ok (.iastore, 1) := by decide +kernel
theorem dX9_kin_48 : decode cX9_kin 48 = .ok (.aload_n 0, 1) := by decide +kernel
theorem dX9_kin_49 : decode cX9_kin 49 = .ok (.getfield 12, 3) := by decide +kernel
theorem dX9_kin_52 : decode cX9_kin 52 = .ok (.getfield 97, 3) := by decide +kernel
theorem dX9_kin_55 : decode cX9_kin 55 = .ok (.iload_n 2, 1) := by decide +kernel
theorem dX9_kin_56 : decode cX9_kin 56 = .ok (.dup2, 1) := by decide +kernel
theorem dX9_kin_57 : decode cX9_kin 57 = .ok (.iaload, 1) := by decide +kernel
theorem dX9_kin_58 : decode cX9_kin 58 = .ok (.iconst 1, 1) := by decide +kernel
theorem dX9_kin_59 : decode cX9_kin 59 = .ok (.iload_n 1, 1) := by decide +kernel
theorem dX9_kin_60 : decode cX9_kin 60 = .ok (.ishl, 1) := by decide +kernel
theorem dX9_kin_61 : decode cX9_kin 61 = .ok (.ior, 1) := by decide +kernel
theorem dX9_kin_62 : decode cX9_kin 62 = .ok (.iastore, 1) := by decide +kernel
theorem dX9_kin_63 : decode cX9_kin 63 = .ok (.goto 37, 3) := by decide +kernel
theorem dX9_kin_66 : decode cX9_kin 66 = .ok (.aload_n 0, 1) := by decide +kernel
theorem dX9_kin_67 : decode cX9_kin 67 = .ok (.getfield 12, 3) := by decide +kernel
theorem dX9_kin_70 : decode cX9_kin 70 = .ok (.getfield 97, 3) := by decide +kernel
theorem dX9_kin_73 : decode cX9_kin 73 = .ok (.iload_n 1, 1) := by decide +kernel
theorem dX9_kin_74 : decode cX9_kin 74 = .ok (.dup2, 1) := by decide +kernel
theorem dX9_kin_75 : decode cX9_kin 75 = .ok (.iaload, 1) := by decide +kernel
theorem dX9_kin_76 : decode cX9_kin 76 = .ok (.iconst 1, 1) := by decide +kernel
theorem dX9_kin_77 : decode cX9_kin 77 = .ok (.iload_n 2, 1) := by decide +kernel
theorem dX9_kin_78 : decode cX9_kin 78 = .ok (.ishl, 1) := by decide +kernel
theorem dX9_kin_79 : decode cX9_kin 79 = .ok (.iconst (-1), 1) := by decide +kernel
theorem dX9_kin_80 : decode cX9_kin 80 = .ok (.ixor, 1) := by decide +kernel
theorem dX9_kin_81 : decode cX9_kin 81 = .ok (.iand, 1) := by decide +kernel
theorem dX9_kin_82 : decode cX9_kin 82 = .ok (.iastore, 1) := by decide +kernel
theorem dX9_kin_83 : decode cX9_kin 83 = .ok (.aload_n 0, 1) := by decide +kernel
theorem dX9_kin_84 : decode cX9_kin 84 = .ok (.getfield 12, 3) := by decide +kernel
theorem dX9_kin_87 : decode cX9_kin 87 = .ok (.getfield 97, 3) := by decide +kernel
theorem dX9_kin_90 : decode cX9_kin 90 = .ok (.iload_n 2, 1) := by decide +kernel
theorem dX9_kin_91 : decode cX9_kin 91 = .ok (.dup2, 1) := by decide +kernel
theorem dX9_kin_92 : decode cX9_kin 92 = .ok (.iaload, 1) := by decide +kernel
theorem dX9_kin_93 : decode cX9_kin 93 = .ok (.iconst 1, 1) := by decide +kernel
theorem dX9_kin_94 : decode cX9_kin 94 = .ok (.iload_n 1, 1) := by decide +kernel
theorem dX9_kin_95 : decode cX9_kin 95 = .ok (.ishl, 1) := by decide +kernel
theorem dX9_kin_96 : decode cX9_kin 96 = .ok (.iconst (-1), 1) := by decide +kernel
theorem dX9_kin_97 : decode cX9_kin 97 = .ok (.ixor, 1) := by decide +kernel
theorem dX9_kin_98 : decode cX9_kin 98 = .ok (.iand, 1) := by decide +kernel
theorem dX9_kin_99 : decode cX9_kin 99 = .ok (.iastore, 1) := by decide +kernel
theorem dX9_kin_100 : decode cX9_kin 100 = .ok (.aload_n 0, 1) := by decide +kernel
theorem dX9_kin_101 : decode cX9_kin 101 = .ok (.getfield 25, 3) := by decide +kernel
theorem dX9_kin_104 : decode cX9_kin 104 = .ok (.invokevirtual 57, 3) := by decide +kernel
theorem dX9_kin_107 : decode cX9_kin 107 = .ok (.iconst 1, 1) := by decide +kernel
theorem dX9_kin_108 : decode cX9_kin 108 = .ok (.ireturn, 1) := by decide +kernel
theorem dX9_miles_0 : decode cX9_miles 0 = .ok (.iload_n 1, 1) := by decide +kernel
theorem dX9_miles_1 : decode cX9_miles 1 = .ok (.invokestatic 67, 3) := by decide +kernel
theorem dX9_miles_4 : decode cX9_miles 4 = .ok (.ifCond .eq 24, 3) := by decide +kernel
theorem dX9_miles_7 : decode cX9_miles 7 = .ok (.iload_n 2, 1) := by decide +kernel
theorem dX9_miles_8 : decode cX9_miles 8 = .ok (.invokestatic 67, 3) := by decide +kernel
theorem dX9_miles_11 : decode cX9_miles 11 = .ok (.ifCond .eq 17, 3) := by decide +kernel
theorem dX9_miles_14 : decode cX9_miles 14 = .ok (.iload_n 1, 1) := by decide +kernel
theorem dX9_miles_15 : decode cX9_miles 15 = .ok (.iload_n 2, 1) := by decide +kernel
theorem dX9_miles_16 : decode cX9_miles 16 = .ok (.if_icmp .eq 12, 3) := by decide +kernel
theorem dX9_miles_19 : decode cX9_miles 19 = .ok (.iload_n 3, 1) := by decide +kernel
theorem dX9_miles_20 : decode cX9_miles 20 = .ok (.bipush 99, 2) := by decide +kernel
theorem dX9_miles_22 : decode cX9_miles 22 = .ok (.invokestatic 77, 3) := by decide +kernel
theorem dX9_miles_25 : decode cX9_miles 25 = .ok (.ifCond .ne 5, 3) := by decide +kernel
theorem dX9_miles_28 : decode cX9_miles 28 = .ok (.iconst 0, 1) := by decide +kernel
theorem dX9_miles_29 : decode cX9_miles 29 = .ok (.ireturn, 1) := by decide +kernel
theorem dX9_miles_30 : decode cX9_miles 30 = .ok (.aload_n 0, 1) := by decide +kernel
theorem dX9_miles_31 : decode cX9_miles 31 = .ok (.getfield 12, 3) := by decide +kernel
theorem dX9_miles_34 : decode cX9_miles 34 = .ok (.getfield 100, 3) := by decide +kernel
theorem dX9_miles_37 : decode cX9_miles 37 = .ok (.iload_n 1, 1) := by decide +kernel
theorem dX9_miles_38 : decode cX9_miles 38 = .ok (.bipush 10, 2) := by decide +kernel
theorem dX9_miles_40 : decode cX9_miles 40 = .ok (.imul, 1) := by decide +kernel
theorem dX9_miles_41 : decode cX9_miles 41 = .ok (.iload_n 2, 1) := by decide +kernel
theorem dX9_miles_42 : decode cX9_miles 42 = .ok (.iadd, 1) := by decide +kernel
theorem dX9_miles_43 : decode cX9_miles 43 = .ok (.iload_n 3, 1) := by decide +kernel
theorem dX9_miles_44 : decode cX9_miles 44 = .ok (.iastore, 1) := by decide +kernel
theorem dX9_miles_45 : decode cX9_miles 45 = .ok (.aload_n 0, 1) := by decide +kernel
theorem dX9_miles_46 : decode cX9_miles 46 = .ok (.getfield 12, 3) := by decide +kernel
theorem dX9_miles_49 : decode cX9_miles 49 = .ok (.getfield 100, 3) := by decide +kernel
theorem dX9_miles_52 : decode cX9_miles 52 = .ok (.iload_n 2, 1) := by decide +kernel
theorem dX9_miles_53 : decode cX9_miles 53 = .ok (.bipush 10, 2) := by decide +kernel
theorem dX9_miles_55 : decode cX9_miles 55 = .ok (.imul, 1) := by decide +kernel
theorem dX9_miles_56 : decode cX9_miles 56 = .ok (.iload_n 1, 1) := by decide +kernel
theorem dX9_miles_57 : decode cX9_miles 57 = .ok (.iadd, 1) := by decide +kernel
theorem dX9_miles_58 : decode cX9_miles 58 = .ok (.iload_n 3, 1) := by decide +kernel
theorem dX9_miles_59 : decode cX9_miles 59 = .ok (.iastore, 1) := by decide +kernel
theorem dX9_miles_60 : decode cX9_miles 60 = .ok (.aload_n 0, 1) := by decide +kernel
theorem dX9_miles_61 : decode cX9_miles 61 = .ok (.getfield 25, 3) := by decide +kernel
theorem dX9_miles_64 : decode cX9_miles 64 = .ok (.invokevirtual 57, 3) := by decide +kernel
theorem dX9_miles_67 : decode cX9_miles 67 = .ok (.iconst 1, 1) := by decide +kernel
theorem dX9_miles_68 : decode cX9_miles 68 = .ok (.ireturn, 1) := by decide +kernel
theorem dX9_say_0 : decode cX9_say 0 = .ok (.aload_n 0, 1) := by decide +kernel
theorem dX9_say_1 : decode cX9_say 1 = .ok (.getfield 12, 3) := by decide +kernel
theorem dX9_say_4 : decode cX9_say 4 = .ok (.iload_n 1, 1) := by decide +kernel
theorem dX9_say_5 : decode cX9_say 5 = .ok (.iload_n 2, 1) := by decide +kernel
theorem dX9_say_6 : decode cX9_say 6 = .ok (.invokevirtual 103, 3) := by decide +kernel
theorem dX9_say_9 : decode cX9_say 9 = .ok (.ifCond .ne 5, 3) := by decide +kernel
theorem dX9_say_12 : decode cX9_say 12 = .ok (.iconst (-1), 1) := by decide +kernel
theorem dX9_say_13 : decode cX9_say 13 = .ok (.ireturn, 1) := by decide +kernel
theorem dX9_say_14 : decode cX9_say 14 = .ok (.aload_n 0, 1) := by decide +kernel
theorem dX9_say_15 : decode cX9_say 15 = .ok (.getfield 25, 3) := by decide +kernel
theorem dX9_say_18 : decode cX9_say 18 = .ok (.aload_n 0, 1) := by decide +kernel
theorem dX9_say_19 : decode cX9_say 19 = .ok (.getfield 12, 3) := by decide +kernel
theorem dX9_say_22 : decode cX9_say 22 = .ok (.invokevirtual 106, 3) := by decide +kernel
theorem dX9_say_25 : decode cX9_say 25 = .ok (.aload_n 0, 1) := by decide +kernel
theorem dX9_say_26 : decode cX9_say 26 = .ok (.getfield 12, 3) := by decide +kernel
theorem dX9_say_29 : decode cX9_say 29 = .ok (.iload_n 1, 1) := by decide +kernel
theorem dX9_say_30 : decode cX9_say 30 = .ok (.iload_n 2, 1) := by decide +kernel
theorem dX9_say_31 : decode cX9_say 31 = .ok (.invokevirtual 110, 3) := by decide +kernel
theorem dX9_say_34 : decode cX9_say 34 = .ok (.ifCond .eq 7, 3) := by decide +kernel
theorem dX9_say_37 : decode cX9_say 37 = .ok (.iconst 1, 1) := by decide +kernel
theorem dX9_say_38 : decode cX9_say 38 = .ok (.goto 4, 3) := by decide +kernel
theorem dX9_say_41 : decode cX9_say 41 = .ok (.iconst 0, 1) := by decide +kernel
theorem dX9_say_42 : decode cX9_say 42 = .ok (.ireturn, 1) := by decide +kernel
theorem dX9_move_0 : decode cX9_move 0 = .ok (.aload_n 0, 1) := by decide +kernel
theorem dX9_move_1 : decode cX9_move 1 = .ok (.getfield 12, 3) := by decide +kernel
theorem dX9_move_4 : decode cX9_move 4 = .ok (.iload_n 1, 1) := by decide +kernel
theorem dX9_move_5 : decode cX9_move 5 = .ok (.invokevirtual 84, 3) := by decide +kernel
theorem dX9_move_8 : decode cX9_move 8 = .ok (.ifCond .eq 26, 3) := by decide +kernel
theorem dX9_move_11 : decode cX9_move 11 = .ok (.iload_n 2, 1) := by decide +kernel
theorem dX9_move_12 : decode cX9_move 12 = .ok (.invokestatic 67, 3) := by decide +kernel
theorem dX9_move_15 : decode cX9_move 15 = .ok (.ifCond .eq 19, 3) := by decide +kernel
theorem dX9_move_18 : decode cX9_move 18 = .ok (.aload_n 0, 1) := by decide +kernel
theorem dX9_move_19 : decode cX9_move 19 = .ok (.getfield 12, 3) := by decide +kernel
theorem dX9_move_22 : decode cX9_move 22 = .ok (.getfield 47, 3) := by decide +kernel
theorem dX9_move_25 : decode cX9_move 25 = .ok (.getfield 113, 3) := by decide +kernel
theorem dX9_move_28 : decode cX9_move 28 = .ok (.iload_n 1, 1) := by decide +kernel
theorem dX9_move_29 : decode cX9_move 29 = .ok (.iaload, 1) := by decide +kernel
theorem dX9_move_30 : decode cX9_move 30 = .ok (.iload_n 2, 1) := by decide +kernel
theorem dX9_move_31 : decode cX9_move 31 = .ok (.if_icmp .ne 5, 3) := by decide +kernel
theorem dX9_move_34 : decode cX9_move 34 = .ok (.iconst 0, 1) := by decide +kernel
theorem dX9_move_35 : decode cX9_move 35 = .ok (.ireturn, 1) := by decide +kernel
theorem dX9_move_36 : decode cX9_move 36 = .ok (.aload_n 0, 1) := by decide +kernel
theorem dX9_move_37 : decode cX9_move 37 = .ok (.getfield 25, 3) := by decide +kernel
theorem dX9_move_40 : decode cX9_move 40 = .ok (.aload_n 0, 1) := by decide +kernel
theorem dX9_move_41 : decode cX9_move 41 = .ok (.getfield 12, 3) := by decide +kernel
theorem dX9_move_44 : decode cX9_move 44 = .ok (.invokevirtual 106, 3) := by decide +kernel
theorem dX9_move_47 : decode cX9_move 47 = .ok (.aload_n 0, 1) := by decide +kernel
theorem dX9_move_48 : decode cX9_move 48 = .ok (.getfield 12, 3) := by decide +kernel
theorem dX9_move_51 : decode cX9_move 51 = .ok (.iload_n 1, 1) := by decide +kernel
theorem dX9_move_52 : decode cX9_move 52 = .ok (.iload_n 2, 1) := by decide +kernel
theorem dX9_move_53 : decode cX9_move 53 = .ok (.invokevirtual 116, 3) := by decide +kernel
theorem dX9_move_56 : decode cX9_move 56 = .ok (.iconst 1, 1) := by decide +kernel
theorem dX9_move_57 : decode cX9_move 57 = .ok (.ireturn, 1) := by decide +kernel
theorem dX9_teach_0 : decode cX9_teach 0 = .ok (.aload_n 0, 1) := by decide +kernel
theorem dX9_teach_1 : decode cX9_teach 1 = .ok (.getfield 12, 3) := by decide +kernel
theorem dX9_teach_4 : decode cX9_teach 4 = .ok (.iload_n 1, 1) := by decide +kernel
theorem dX9_teach_5 : decode cX9_teach 5 = .ok (.invokevirtual 84, 3) := by decide +kernel
theorem dX9_teach_8 : decode cX9_teach 8 = .ok (.ifCond .eq 37, 3) := by decide +kernel
theorem dX9_teach_11 : decode cX9_teach 11 = .ok (.aload_n 0, 1) := by decide +kernel
theorem dX9_teach_12 : decode cX9_teach 12 = .ok (.getfield 12, 3) := by decide +kernel
theorem dX9_teach_15 : decode cX9_teach 15 = .ok (.iload_n 2, 1) := by decide +kernel
theorem dX9_teach_16 : decode cX9_teach 16 = .ok (.invokevirtual 91, 3) := by decide +kernel
theorem dX9_teach_19 : decode cX9_teach 19 = .ok (.ifCond .eq 26, 3) := by decide +kernel
theorem dX9_teach_22 : decode cX9_teach 22 = .ok (.aload_n 0, 1) := by decide +kernel
theorem dX9_teach_23 : decode cX9_teach 23 = .ok (.getfield 12, 3) := by decide +kernel
theorem dX9_teach_26 : decode cX9_teach 26 = .ok (.iload_n 2, 1) := by decide +kernel
theorem dX9_teach_27 : decode cX9_teach 27 = .ok (.invokevirtual 120, 3) := by decide +kernel
theorem dX9_teach_30 : decode cX9_teach 30 = .ok (.ifCond .ne 15, 3) := by decide +kernel
theorem dX9_teach_33 : decode cX9_teach 33 = .ok (.aload_n 0, 1) := by decide +kernel
theorem dX9_teach_34 : decode cX9_teach 34 = .ok (.getfield 12, 3) := by decide +kernel
theorem dX9_teach_37 : decode cX9_teach 37 = .ok (.iload_n 1, 1) := by decide +kernel
theorem dX9_teach_38 : decode cX9_teach 38 = .ok (.iload_n 2, 1) := by decide +kernel
theorem dX9_teach_39 : decode cX9_teach 39 = .ok (.invokevirtual 123, 3) := by decide +kernel
theorem dX9_teach_42 : decode cX9_teach 42 = .ok (.ifCond .eq 5, 3) := by decide +kernel
theorem dX9_teach_45 : decode cX9_teach 45 = .ok (.iconst 0, 1) := by decide +kernel
theorem dX9_teach_46 : decode cX9_teach 46 = .ok (.ireturn, 1) := by decide +kernel
theorem dX9_teach_47 : decode cX9_teach 47 = .ok (.aload_n 0, 1) := by decide +kernel
theorem dX9_teach_48 : decode cX9_teach 48 = .ok (.getfield 25, 3) := by decide +kernel
theorem dX9_teach_51 : decode cX9_teach 51 = .ok (.aload_n 0, 1) := by decide +kernel
theorem dX9_teach_52 : decode cX9_teach 52 = .ok (.getfield 12, 3) := by decide +kernel
theorem dX9_teach_55 : decode cX9_teach 55 = .ok (.invokevirtual 106, 3) := by decide +kernel
theorem dX9_teach_58 : decode cX9_teach 58 = .ok (.aload_n 0, 1) := by decide +kernel
theorem dX9_teach_59 : decode cX9_teach 59 = .ok (.getfield 12, 3) := by decide +kernel
theorem dX9_teach_62 : decode cX9_teach 62 = .ok (.iload_n 1, 1) := by decide +kernel
theorem dX9_teach_63 : decode cX9_teach 63 = .ok (.iload_n 2, 1) := by decide +kernel
theorem dX9_teach_64 : decode cX9_teach 64 = .ok (.invokevirtual 126, 3) := by decide +kernel
theorem dX9_teach_67 : decode cX9_teach 67 = .ok (.iconst 1, 1) := by decide +kernel
theorem dX9_teach_68 : decode cX9_teach 68 = .ok (.ireturn, 1) := by decide +kernel
theorem dX9_carve_0 : decode cX9_carve 0 = .ok (.aload_n 0, 1) := by decide +kernel
theorem dX9_carve_1 : decode cX9_carve 1 = .ok (.getfield 12, 3) := by decide +kernel
theorem dX9_carve_4 : decode cX9_carve 4 = .ok (.iload_n 1, 1) := by decide +kernel
theorem dX9_carve_5 : decode cX9_carve 5 = .ok (.invokevirtual 91, 3) := by decide +kernel
theorem dX9_carve_8 : decode cX9_carve 8 = .ok (.ifCond .eq 14, 3) := by decide +kernel
theorem dX9_carve_11 : decode cX9_carve 11 = .ok (.aload_n 0, 1) := by decide +kernel
theorem dX9_carve_12 : decode cX9_carve 12 = .ok (.getfield 12, 3) := by decide +kernel
theorem dX9_carve_15 : decode cX9_carve 15 = .ok (.iload_n 1, 1) := by decide +kernel
theorem dX9_carve_16 : decode cX9_carve 16 = .ok (.invokevirtual 120, 3) := by decide +kernel
theorem dX9_carve_19 : decode cX9_carve 19 = .ok (.ifCond .ne 5, 3) := by decide +kernel
theorem dX9_carve_22 : decode cX9_carve 22 = .ok (.iconst 0, 1) := by decide +kernel
theorem dX9_carve_23 : decode cX9_carve 23 = .ok (.ireturn, 1) := by decide +kernel
theorem dX9_carve_24 : decode cX9_carve 24 = .ok (.aload_n 0, 1) := by decide +kernel
theorem dX9_carve_25 : decode cX9_carve 25 = .ok (.getfield 25, 3) := by decide +kernel
theorem dX9_carve_28 : decode cX9_carve 28 = .ok (.aload_n 0, 1) := by decide +kernel
theorem dX9_carve_29 : decode cX9_carve 29 = .ok (.getfield 12, 3) := by decide +kernel
theorem dX9_carve_32 : decode cX9_carve 32 = .ok (.invokevirtual 106, 3) := by decide +kernel
theorem dX9_carve_35 : decode cX9_carve 35 = .ok (.aload_n 0, 1) := by decide +kernel
theorem dX9_carve_36 : decode cX9_carve 36 = .ok (.getfield 12, 3) := by decide +kernel
theorem dX9_carve_39 : decode cX9_carve 39 = .ok (.iload_n 1, 1) := by decide +kernel
theorem dX9_carve_40 : decode cX9_carve 40 = .ok (.invokevirtual 129, 3) := by decide +kernel
theorem dX9_carve_43 : decode cX9_carve 43 = .ok (.iconst 1, 1) := by decide +kernel
theorem dX9_carve_44 : decode cX9_carve 44 = .ok (.ireturn, 1) := by decide +kernel
theorem dX9_days_0 : decode cX9_days 0 = .ok (.iload_n 1, 1) := by decide +kernel
theorem dX9_days_1 : decode cX9_days 1 = .ok (.iconst 1, 1) := by decide +kernel
theorem dX9_days_2 : decode cX9_days 2 = .ok (.if_icmp .lt 27, 3) := by decide +kernel
theorem dX9_days_5 : decode cX9_days 5 = .ok (.iload_n 1, 1) := by decide +kernel
theorem dX9_days_6 : decode cX9_days 6 = .ok (.bipush 60, 2) := by decide +kernel
theorem dX9_days_8 : decode cX9_days 8 = .ok (.if_icmp .gt 21, 3) := by decide +kernel
theorem dX9_days_11 : decode cX9_days 11 = .ok (.aload_n 0, 1) := by decide +kernel
theorem dX9_days_12 : decode cX9_days 12 = .ok (.getfield 12, 3) := by decide +kernel
theorem dX9_days_15 : decode cX9_days 15 = .ok (.getfield 47, 3) := by decide +kernel
theorem dX9_days_18 : decode cX9_days 18 = .ok (.getfield 133, 3) := by decide +kernel
theorem dX9_days_21 : decode cX9_days 21 = .ok (.iload_n 1, 1) := by decide +kernel
theorem dX9_days_22 : decode cX9_days 22 = .ok (.iadd, 1) := by decide +kernel
theorem dX9_days_23 : decode cX9_days 23 = .ok (.sipush 9999, 3) := by decide +kernel
theorem dX9_days_26 : decode cX9_days 26 = .ok (.if_icmp .le 5, 3) := by decide +kernel
theorem dX9_days_29 : decode cX9_days 29 = .ok (.iconst (-1), 1) := by decide +kernel
theorem dX9_days_30 : decode cX9_days 30 = .ok (.ireturn, 1) := by decide +kernel
theorem dX9_days_31 : decode cX9_days 31 = .ok (.aload_n 0, 1) := by decide +kernel
theorem dX9_days_32 : decode cX9_days 32 = .ok (.getfield 12, 3) := by decide +kernel
theorem dX9_days_35 : decode cX9_days 35 = .ok (.getfield 47, 3) := by decide +kernel
theorem dX9_days_38 : decode cX9_days 38 = .ok (.getfield 136, 3) := by decide +kernel
theorem dX9_days_41 : decode cX9_days 41 = .ok (.invokestatic 139, 3) := by decide +kernel
theorem dX9_days_44 : decode cX9_days 44 = .ok (.istore_n 2, 1) := by decide +kernel
theorem dX9_days_45 : decode cX9_days 45 = .ok (.iconst 0, 1) := by decide +kernel
theorem dX9_days_46 : decode cX9_days 46 = .ok (.istore_n 3, 1) := by decide +kernel
theorem dX9_days_47 : decode cX9_days 47 = .ok (.iload_n 3, 1) := by decide +kernel
theorem dX9_days_48 : decode cX9_days 48 = .ok (.iload_n 1, 1) := by decide +kernel
theorem dX9_days_49 : decode cX9_days 49 = .ok (.if_icmp .ge 27, 3) := by decide +kernel
theorem dX9_days_52 : decode cX9_days 52 = .ok (.aload_n 0, 1) := by decide +kernel
theorem dX9_days_53 : decode cX9_days 53 = .ok (.getfield 25, 3) := by decide +kernel
theorem dX9_days_56 : decode cX9_days 56 = .ok (.aload_n 0, 1) := by decide +kernel
theorem dX9_days_57 : decode cX9_days 57 = .ok (.getfield 12, 3) := by decide +kernel
theorem dX9_days_60 : decode cX9_days 60 = .ok (.invokevirtual 106, 3) := by decide +kernel
theorem dX9_days_63 : decode cX9_days 63 = .ok (.aload_n 0, 1) := by decide +kernel
theorem dX9_days_64 : decode cX9_days 64 = .ok (.getfield 12, 3) := by decide +kernel
theorem dX9_days_67 : decode cX9_days 67 = .ok (.invokevirtual 144, 3) := by decide +kernel
theorem dX9_days_70 : decode cX9_days 70 = .ok (.iinc 3 1, 3) := by decide +kernel
theorem dX9_days_73 : decode cX9_days 73 = .ok (.goto (-26), 3) := by decide +kernel
theorem dX9_days_76 : decode cX9_days 76 = .ok (.aload_n 0, 1) := by decide +kernel
theorem dX9_days_77 : decode cX9_days 77 = .ok (.getfield 12, 3) := by decide +kernel
theorem dX9_days_80 : decode cX9_days 80 = .ok (.getfield 47, 3) := by decide +kernel
theorem dX9_days_83 : decode cX9_days 83 = .ok (.getfield 136, 3) := by decide +kernel
theorem dX9_days_86 : decode cX9_days 86 = .ok (.invokestatic 139, 3) := by decide +kernel
theorem dX9_days_89 : decode cX9_days 89 = .ok (.iload_n 2, 1) := by decide +kernel
theorem dX9_days_90 : decode cX9_days 90 = .ok (.isub, 1) := by decide +kernel
theorem dX9_days_91 : decode cX9_days 91 = .ok (.ireturn, 1) := by decide +kernel
theorem dX9_feed_0 : decode cX9_feed 0 = .ok (.aload_n 0, 1) := by decide +kernel
theorem dX9_feed_1 : decode cX9_feed 1 = .ok (.getfield 32, 3) := by decide +kernel
theorem dX9_feed_4 : decode cX9_feed 4 = .ok (.getfield 147, 3) := by decide +kernel
theorem dX9_feed_7 : decode cX9_feed 7 = .ok (.bipush 20, 2) := by decide +kernel
theorem dX9_feed_9 : decode cX9_feed 9 = .ok (.iadd, 1) := by decide +kernel
theorem dX9_feed_10 : decode cX9_feed 10 = .ok (.sipush 400, 3) := by decide +kernel
theorem dX9_feed_13 : decode cX9_feed 13 = .ok (.if_icmp .le 5, 3) := by decide +kernel
theorem dX9_feed_16 : decode cX9_feed 16 = .ok (.iconst (-1), 1) := by decide +kernel
theorem dX9_feed_17 : decode cX9_feed 17 = .ok (.ireturn, 1) := by decide +kernel
theorem dX9_feed_18 : decode cX9_feed 18 = .ok (.aload_n 0, 1) := by decide +kernel
theorem dX9_feed_19 : decode cX9_feed 19 = .ok (.getfield 32, 3) := by decide +kernel
theorem dX9_feed_22 : decode cX9_feed 22 = .ok (.iload_n 1, 1) := by decide +kernel
theorem dX9_feed_23 : decode cX9_feed 23 = .ok (.invokevirtual 150, 3) := by decide +kernel
theorem dX9_feed_26 : decode cX9_feed 26 = .ok (.aload_n 0, 1) := by decide +kernel
theorem dX9_feed_27 : decode cX9_feed 27 = .ok (.getfield 32, 3) := by decide +kernel
theorem dX9_feed_30 : decode cX9_feed 30 = .ok (.iload_n 2, 1) := by decide +kernel
theorem dX9_feed_31 : decode cX9_feed 31 = .ok (.invokevirtual 150, 3) := by decide +kernel
theorem dX9_feed_34 : decode cX9_feed 34 = .ok (.aload_n 0, 1) := by decide +kernel
theorem dX9_feed_35 : decode cX9_feed 35 = .ok (.getfield 32, 3) := by decide +kernel
theorem dX9_feed_38 : decode cX9_feed 38 = .ok (.iload_n 3, 1) := by decide +kernel
theorem dX9_feed_39 : decode cX9_feed 39 = .ok (.invokevirtual 150, 3) := by decide +kernel
theorem dX9_feed_42 : decode cX9_feed 42 = .ok (.aload_n 0, 1) := by decide +kernel
theorem dX9_feed_43 : decode cX9_feed 43 = .ok (.getfield 32, 3) := by decide +kernel
theorem dX9_feed_46 : decode cX9_feed 46 = .ok (.iload 4, 2) := by decide +kernel
theorem dX9_feed_48 : decode cX9_feed 48 = .ok (.invokevirtual 150, 3) := by decide +kernel
theorem dX9_feed_51 : decode cX9_feed 51 = .ok (.aload_n 0, 1) := by decide +kernel
theorem dX9_feed_52 : decode cX9_feed 52 = .ok (.getfield 32, 3) := by decide +kernel
theorem dX9_feed_55 : decode cX9_feed 55 = .ok (.iload 5, 2) := by decide +kernel
theorem dX9_feed_57 : decode cX9_feed 57 = .ok (.invokevirtual 150, 3) := by decide +kernel
theorem dX9_feed_60 : decode cX9_feed 60 = .ok (.aload_n 0, 1) := by decide +kernel
theorem dX9_feed_61 : decode cX9_feed 61 = .ok (.getfield 32, 3) := by decide +kernel
theorem dX9_feed_64 : decode cX9_feed 64 = .ok (.getfield 147, 3) := by decide +kernel
theorem dX9_feed_67 : decode cX9_feed 67 = .ok (.ireturn, 1) := by decide +kernel
theorem dX9_end_0 : decode cX9_end 0 = .ok (.iload_n 1, 1) := by decide +kernel
theorem dX9_end_1 : decode cX9_end 1 = .ok (.ifCond .lt 14, 3) := by decide +kernel
theorem dX9_end_4 : decode cX9_end 4 = .ok (.iload_n 1, 1) := by decide +kernel
theorem dX9_end_5 : decode cX9_end 5 = .ok (.aload_n 0, 1) := by decide +kernel
theorem dX9_end_6 : decode cX9_end 6 = .ok (.getfield 32, 3) := by decide +kernel
theorem dX9_end_9 : decode cX9_end 9 = .ok (.getfield 147, 3) := by decide +kernel
theorem dX9_end_12 : decode cX9_end 12 = .ok (.if_icmp .le 5, 3) := by decide +kernel
theorem dX9_end_15 : decode cX9_end 15 = .ok (.iconst 0, 1) := by decide +kernel
theorem dX9_end_16 : decode cX9_end 16 = .ok (.ireturn, 1) := by decide +kernel
theorem dX9_end_17 : decode cX9_end 17 = .ok (.aload_n 0, 1) := by decide +kernel
theorem dX9_end_18 : decode cX9_end 18 = .ok (.getfield 32, 3) := by decide +kernel
theorem dX9_end_21 : decode cX9_end 21 = .ok (.iload_n 1, 1) := by decide +kernel
theorem dX9_end_22 : decode cX9_end 22 = .ok (.putfield 147, 3) := by decide +kernel
theorem dX9_end_25 : decode cX9_end 25 = .ok (.iconst 1, 1) := by decide +kernel
theorem dX9_end_26 : decode cX9_end 26 = .ok (.ireturn, 1) := by decide +kernel
theorem dX9_text_0 : decode cX9_text 0 = .ok (.aload_n 0, 1) := by decide +kernel
theorem dX9_text_1 : decode cX9_text 1 = .ok (.getfield 39, 3) := by decide +kernel
theorem dX9_text_4 : decode cX9_text 4 = .ok (.iload_n 1, 1) := by decide +kernel
theorem dX9_text_5 : decode cX9_text 5 = .ok (.aload_n 0, 1) := by decide +kernel
theorem dX9_text_6 : decode cX9_text 6 = .ok (.getfield 32, 3) := by decide +kernel
theorem dX9_text_9 : decode cX9_text 9 = .ok (.aload_n 0, 1) := by decide +kernel
theorem dX9_text_10 : decode cX9_text 10 = .ok (.getfield 12, 3) := by decide +kernel
theorem dX9_text_13 : decode cX9_text 13 = .ok (.aload_n 0, 1) := by decide +kernel
theorem dX9_text_14 : decode cX9_text 14 = .ok (.getfield 19, 3) := by decide +kernel
theorem dX9_text_17 : decode cX9_text 17 = .ok (.invokevirtual 153, 3) := by decide +kernel
theorem dX9_text_20 : decode cX9_text 20 = .ok (.istore_n 2, 1) := by decide +kernel
theorem dX9_text_21 : decode cX9_text 21 = .ok (.aload_n 0, 1) := by decide +kernel
theorem dX9_text_22 : decode cX9_text 22 = .ok (.getfield 32, 3) := by decide +kernel
theorem dX9_text_25 : decode cX9_text 25 = .ok (.iconst 0, 1) := by decide +kernel
theorem dX9_text_26 : decode cX9_text 26 = .ok (.putfield 147, 3) := by decide +kernel
theorem dX9_text_29 : decode cX9_text 29 = .ok (.iload_n 2, 1) := by decide +kernel
theorem dX9_text_30 : decode cX9_text 30 = .ok (.iconst (-1), 1) := by decide +kernel
theorem dX9_text_31 : decode cX9_text 31 = .ok (.if_icmp .ne 5, 3) := by decide +kernel
theorem dX9_text_34 : decode cX9_text 34 = .ok (.iconst (-1), 1) := by decide +kernel
theorem dX9_text_35 : decode cX9_text 35 = .ok (.ireturn, 1) := by decide +kernel
theorem dX9_text_36 : decode cX9_text 36 = .ok (.iload_n 1, 1) := by decide +kernel
theorem dX9_text_37 : decode cX9_text 37 = .ok (.ifCond .ne 34, 3) := by decide +kernel
theorem dX9_text_40 : decode cX9_text 40 = .ok (.aload_n 0, 1) := by decide +kernel
theorem dX9_text_41 : decode cX9_text 41 = .ok (.getfield 12, 3) := by decide +kernel
theorem dX9_text_44 : decode cX9_text 44 = .ok (.getfield 157, 3) := by decide +kernel
theorem dX9_text_47 : decode cX9_text 47 = .ok (.aload_n 0, 1) := by decide +kernel
theorem dX9_text_48 : decode cX9_text 48 = .ok (.getfield 19, 3) := by decide +kernel
theorem dX9_text_51 : decode cX9_text 51 = .ok (.getfield 157, 3) := by decide +kernel
theorem dX9_text_54 : decode cX9_text 54 = .ok (.invokevirtual 161, 3) := by decide +kernel
theorem dX9_text_57 : decode cX9_text 57 = .ok (.aload_n 0, 1) := by decide +kernel
theorem dX9_text_58 : decode cX9_text 58 = .ok (.getfield 12, 3) := by decide +kernel
theorem dX9_text_61 : decode cX9_text 61 = .ok (.getfield 167, 3) := by decide +kernel
theorem dX9_text_64 : decode cX9_text 64 = .ok (.iconst 0, 1) := by decide +kernel
theorem dX9_text_65 : decode cX9_text 65 = .ok (.putfield 171, 3) := by decide +kernel
theorem dX9_text_68 : decode cX9_text 68 = .ok (.goto 77, 3) := by decide +kernel
theorem dX9_text_71 : decode cX9_text 71 = .ok (.iload_n 1, 1) := by decide +kernel
theorem dX9_text_72 : decode cX9_text 72 = .ok (.iconst 1, 1) := by decide +kernel
theorem dX9_text_73 : decode cX9_text 73 = .ok (.if_icmp .ne 23, 3) := by decide +kernel
theorem dX9_text_76 : decode cX9_text 76 = .ok (.aload_n 0, 1) := by decide +kernel
theorem dX9_text_77 : decode cX9_text 77 = .ok (.getfield 12, 3) := by decide +kernel
theorem dX9_text_80 : decode cX9_text 80 = .ok (.getfield 176, 3) := by decide +kernel
theorem dX9_text_83 : decode cX9_text 83 = .ok (.aload_n 0, 1) := by decide +kernel
theorem dX9_text_84 : decode cX9_text 84 = .ok (.getfield 19, 3) := by decide +kernel
theorem dX9_text_87 : decode cX9_text 87 = .ok (.getfield 176, 3) := by decide +kernel
theorem dX9_text_90 : decode cX9_text 90 = .ok (.invokevirtual 180, 3) := by decide +kernel
theorem dX9_text_93 : decode cX9_text 93 = .ok (.goto 52, 3) := by decide +kernel
theorem dX9_text_96 : decode cX9_text 96 = .ok (.iload_n 1, 1) := by decide +kernel
theorem dX9_text_97 : decode cX9_text 97 = .ok (.iconst 2, 1) := by decide +kernel
theorem dX9_text_98 : decode cX9_text 98 = .ok (.if_icmp .ne 30, 3) := by decide +kernel
theorem dX9_text_101 : decode cX9_text 101 = .ok (.aload_n 0, 1) := by decide +kernel
theorem dX9_text_102 : decode cX9_text 102 = .ok (.getfield 12, 3) := by decide +kernel
theorem dX9_text_105 : decode cX9_text 105 = .ok (.getfield 185, 3) := by decide +kernel
theorem dX9_text_108 : decode cX9_text 108 = .ok (.aload_n 0, 1) := by decide +kernel
theorem dX9_text_109 : decode cX9_text 109 = .ok (.getfield 19, 3) := by decide +kernel
theorem dX9_text_112 : decode cX9_text 112 = .ok (.getfield 185, 3) := by decide +kernel
theorem dX9_text_115 : decode cX9_text 115 = .ok (.invokevirtual 188, 3) := by decide +kernel
theorem dX9_text_118 : decode cX9_text 118 = .ok (.aload_n 0, 1) := by decide +kernel
theorem dX9_text_119 : decode cX9_text 119 = .ok (.getfield 25, 3) := by decide +kernel
theorem dX9_text_122 : decode cX9_text 122 = .ok (.invokevirtual 57, 3) := by decide +kernel
theorem dX9_text_125 : decode cX9_text 125 = .ok (.goto 20, 3) := by decide +kernel
theorem dX9_text_128 : decode cX9_text 128 = .ok (.aload_n 0, 1) := by decide +kernel
theorem dX9_text_129 : decode cX9_text 129 = .ok (.getfield 12, 3) := by decide +kernel
theorem dX9_text_132 : decode cX9_text 132 = .ok (.getfield 167, 3) := by decide +kernel
theorem dX9_text_135 : decode cX9_text 135 = .ok (.aload_n 0, 1) := by decide +kernel
theorem dX9_text_136 : decode cX9_text 136 = .ok (.getfield 19, 3) := by decide +kernel
theorem dX9_text_139 : decode cX9_text 139 = .ok (.getfield 167, 3) := by decide +kernel
theorem dX9_text_142 : decode cX9_text 142 = .ok (.invokevirtual 188, 3) := by decide +kernel
theorem dX9_text_145 : decode cX9_text 145 = .ok (.iload_n 2, 1) := by decide +kernel
theorem dX9_text_146 : decode cX9_text 146 = .ok (.ireturn, 1) := by decide +kernel
theorem dX9_of_0 : decode cX9_of 0 = .ok (.aload_n 0, 1) := by decide +kernel
theorem dX9_of_1 : decode cX9_of 1 = .ok (.getfield 12, 3) := by decide +kernel
theorem dX9_of_4 : decode cX9_of 4 = .ok (.iload_n 1, 1) := by decide +kernel
theorem dX9_of_5 : decode cX9_of 5 = .ok (.invokevirtual 91, 3) := by decide +kernel
theorem dX9_of_8 : decode cX9_of 8 = .ok (.ifCond .ne 5, 3) := by decide +kernel
theorem dX9_of_11 : decode cX9_of 11 = .ok (.iconst (-1), 1) := by decide +kernel
theorem dX9_of_12 : decode cX9_of 12 = .ok (.ireturn, 1) := by decide +kernel
theorem dX9_of_13 : decode cX9_of 13 = .ok (.iload_n 2, 1) := by decide +kernel
theorem dX9_of_14 : decode cX9_of 14 = .ok (.tableswitch 126 0 6 #[42, 52, 65, 82, 95, 105, 117], 42) := by decide +kernel
theorem dX9_of_56 : decode cX9_of 56 = .ok (.aload_n 0, 1) := by decide +kernel
theorem dX9_of_57 : decode cX9_of 57 = .ok (.getfield 12, 3) := by decide +kernel
theorem dX9_of_60 : decode cX9_of 60 = .ok (.getfield 197, 3) := by decide +kernel
theorem dX9_of_63 : decode cX9_of 63 = .ok (.iload_n 1, 1) := by decide +kernel
theorem dX9_of_64 : decode cX9_of 64 = .ok (.iaload, 1) := by decide +kernel
theorem dX9_of_65 : decode cX9_of 65 = .ok (.ireturn, 1) := by decide +kernel
theorem dX9_of_66 : decode cX9_of 66 = .ok (.aload_n 0, 1) := by decide +kernel
theorem dX9_of_67 : decode cX9_of 67 = .ok (.getfield 12, 3) := by decide +kernel
theorem dX9_of_70 : decode cX9_of 70 = .ok (.getfield 47, 3) := by decide +kernel
theorem dX9_of_73 : decode cX9_of 73 = .ok (.getfield 94, 3) := by decide +kernel
theorem dX9_of_76 : decode cX9_of 76 = .ok (.iload_n 1, 1) := by decide +kernel
theorem dX9_of_77 : decode cX9_of 77 = .ok (.iaload, 1) := by decide +kernel
theorem dX9_of_78 : decode cX9_of 78 = .ok (.ireturn, 1) := by decide +kernel
theorem dX9_of_79 : decode cX9_of 79 = .ok (.aload_n 0, 1) := by decide +kernel
theorem dX9_of_80 : decode cX9_of 80 = .ok (.getfield 12, 3) := by decide +kernel
theorem dX9_of_83 : decode cX9_of 83 = .ok (.iload_n 1, 1) := by decide +kernel
theorem dX9_of_84 : decode cX9_of 84 = .ok (.invokevirtual 120, 3) := by decide +kernel
theorem dX9_of_87 : decode cX9_of 87 = .ok (.ifCond .eq 7, 3) := by decide +kernel
theorem dX9_of_90 : decode cX9_of 90 = .ok (.iconst 1, 1) := by decide +kernel
theorem dX9_of_91 : decode cX9_of 91 = .ok (.goto 4, 3) := by decide +kernel
theorem dX9_of_94 : decode cX9_of 94 = .ok (.iconst 0, 1) := by decide +kernel
theorem dX9_of_95 : decode cX9_of 95 = .ok (.ireturn, 1) := by decide +kernel
theorem dX9_of_96 : decode cX9_of 96 = .ok (.aload_n 0, 1) := by decide +kernel
theorem dX9_of_97 : decode cX9_of 97 = .ok (.getfield 12, 3) := by decide +kernel
theorem dX9_of_100 : decode cX9_of 100 = .ok (.getfield 47, 3) := by decide +kernel
theorem dX9_of_103 : decode cX9_of 103 = .ok (.getfield 200, 3) := by decide +kernel
theorem dX9_of_106 : decode cX9_of 106 = .ok (.iload_n 1, 1) := by decide +kernel
theorem dX9_of_107 : decode cX9_of 107 = .ok (.iaload, 1) := by decide +kernel
theorem dX9_of_108 : decode cX9_of 108 = .ok (.ireturn, 1) := by decide +kernel
theorem dX9_of_109 : decode cX9_of 109 = .ok (.aload_n 0, 1) := by decide +kernel
theorem dX9_of_110 : decode cX9_of 110 = .ok (.getfield 12, 3) := by decide +kernel
theorem dX9_of_113 : decode cX9_of 113 = .ok (.getfield 97, 3) := by decide +kernel
theorem dX9_of_116 : decode cX9_of 116 = .ok (.iload_n 1, 1) := by decide +kernel
theorem dX9_of_117 : decode cX9_of 117 = .ok (.iaload, 1) := by decide +kernel
theorem dX9_of_118 : decode cX9_of 118 = .ok (.ireturn, 1) := by decide +kernel
theorem dX9_of_119 : decode cX9_of 119 = .ok (.aload_n 0, 1) := by decide +kernel
theorem dX9_of_120 : decode cX9_of 120 = .ok (.getfield 12, 3) := by decide +kernel
theorem dX9_of_123 : decode cX9_of 123 = .ok (.bipush 104, 2) := by decide +kernel
theorem dX9_of_125 : decode cX9_of 125 = .ok (.iload_n 1, 1) := by decide +kernel
theorem dX9_of_126 : decode cX9_of 126 = .ok (.iconst 0, 1) := by decide +kernel
theorem dX9_of_127 : decode cX9_of 127 = .ok (.invokevirtual 203, 3) := by decide +kernel
theorem dX9_of_130 : decode cX9_of 130 = .ok (.ireturn, 1) := by decide +kernel
theorem dX9_of_131 : decode cX9_of 131 = .ok (.aload_n 0, 1) := by decide +kernel
theorem dX9_of_132 : decode cX9_of 132 = .ok (.getfield 12, 3) := by decide +kernel
theorem dX9_of_135 : decode cX9_of 135 = .ok (.iload_n 1, 1) := by decide +kernel
theorem dX9_of_136 : decode cX9_of 136 = .ok (.invokevirtual 207, 3) := by decide +kernel
theorem dX9_of_139 : decode cX9_of 139 = .ok (.ireturn, 1) := by decide +kernel
theorem dX9_of_140 : decode cX9_of 140 = .ok (.iconst (-1), 1) := by decide +kernel
theorem dX9_of_141 : decode cX9_of 141 = .ok (.ireturn, 1) := by decide +kernel
theorem dX9_who_0 : decode cX9_who 0 = .ok (.aload_n 0, 1) := by decide +kernel
theorem dX9_who_1 : decode cX9_who 1 = .ok (.getfield 12, 3) := by decide +kernel
theorem dX9_who_4 : decode cX9_who 4 = .ok (.iload_n 1, 1) := by decide +kernel
theorem dX9_who_5 : decode cX9_who 5 = .ok (.invokevirtual 84, 3) := by decide +kernel
theorem dX9_who_8 : decode cX9_who 8 = .ok (.ifCond .ne 5, 3) := by decide +kernel
theorem dX9_who_11 : decode cX9_who 11 = .ok (.iconst (-1), 1) := by decide +kernel
theorem dX9_who_12 : decode cX9_who 12 = .ok (.ireturn, 1) := by decide +kernel
theorem dX9_who_13 : decode cX9_who 13 = .ok (.iload_n 2, 1) := by decide +kernel
theorem dX9_who_14 : decode cX9_who 14 = .ok (.tableswitch 65 0 2 #[26, 39, 52], 26) := by decide +kernel
theorem dX9_who_40 : decode cX9_who 40 = .ok (.aload_n 0, 1) := by decide +kernel
theorem dX9_who_41 : decode cX9_who 41 = .ok (.getfield 12, 3) := by decide +kernel
theorem dX9_who_44 : decode cX9_who 44 = .ok (.getfield 47, 3) := by decide +kernel
theorem dX9_who_47 : decode cX9_who 47 = .ok (.getfield 113, 3) := by decide +kernel
theorem dX9_who_50 : decode cX9_who 50 = .ok (.iload_n 1, 1) := by decide +kernel
theorem dX9_who_51 : decode cX9_who 51 = .ok (.iaload, 1) := by decide +kernel
theorem dX9_who_52 : decode cX9_who 52 = .ok (.ireturn, 1) := by decide +kernel
theorem dX9_who_53 : decode cX9_who 53 = .ok (.aload_n 0, 1) := by decide +kernel
theorem dX9_who_54 : decode cX9_who 54 = .ok (.getfield 12, 3) := by decide +kernel
theorem dX9_who_57 : decode cX9_who 57 = .ok (.getfield 47, 3) := by decide +kernel
theorem dX9_who_60 : decode cX9_who 60 = .ok (.getfield 210, 3) := by decide +kernel
theorem dX9_who_63 : decode cX9_who 63 = .ok (.iload_n 1, 1) := by decide +kernel
theorem dX9_who_64 : decode cX9_who 64 = .ok (.iaload, 1) := by decide +kernel
theorem dX9_who_65 : decode cX9_who 65 = .ok (.ireturn, 1) := by decide +kernel
theorem dX9_who_66 : decode cX9_who 66 = .ok (.aload_n 0, 1) := by decide +kernel
theorem dX9_who_67 : decode cX9_who 67 = .ok (.getfield 12, 3) := by decide +kernel
theorem dX9_who_70 : decode cX9_who 70 = .ok (.getfield 47, 3) := by decide +kernel
theorem dX9_who_73 : decode cX9_who 73 = .ok (.getfield 87, 3) := by decide +kernel
theorem dX9_who_76 : decode cX9_who 76 = .ok (.iload_n 1, 1) := by decide +kernel
theorem dX9_who_77 : decode cX9_who 77 = .ok (.iaload, 1) := by decide +kernel
theorem dX9_who_78 : decode cX9_who 78 = .ok (.ireturn, 1) := by decide +kernel
theorem dX9_who_79 : decode cX9_who 79 = .ok (.iconst (-1), 1) := by decide +kernel
theorem dX9_who_80 : decode cX9_who 80 = .ok (.ireturn, 1) := by decide +kernel
theorem dX9_asks_0 : decode cX9_asks 0 = .ok (.aload_n 0, 1) := by decide +kernel
theorem dX9_asks_1 : decode cX9_asks 1 = .ok (.getfield 12, 3) := by decide +kernel
theorem dX9_asks_4 : decode cX9_asks 4 = .ok (.iload_n 1, 1) := by decide +kernel
theorem dX9_asks_5 : decode cX9_asks 5 = .ok (.invokevirtual 91, 3) := by decide +kernel
theorem dX9_asks_8 : decode cX9_asks 8 = .ok (.ifCond .eq 10, 3) := by decide +kernel
theorem dX9_asks_11 : decode cX9_asks 11 = .ok (.iload_n 2, 1) := by decide +kernel
theorem dX9_asks_12 : decode cX9_asks 12 = .ok (.invokestatic 67, 3) := by decide +kernel
theorem dX9_asks_15 : decode cX9_asks 15 = .ok (.ifCond .ne 5, 3) := by decide +kernel
theorem dX9_asks_18 : decode cX9_asks 18 = .ok (.iconst (-1), 1) := by decide +kernel
theorem dX9_asks_19 : decode cX9_asks 19 = .ok (.ireturn, 1) := by decide +kernel
theorem dX9_asks_20 : decode cX9_asks 20 = .ok (.aload_n 0, 1) := by decide +kernel
theorem dX9_asks_21 : decode cX9_asks 21 = .ok (.getfield 12, 3) := by decide +kernel
theorem dX9_asks_24 : decode cX9_asks 24 = .ok (.iload_n 3, 1) := by decide +kernel
theorem dX9_asks_25 : decode cX9_asks 25 = .ok (.ifCond .eq 8, 3) := by decide +kernel
theorem dX9_asks_28 : decode cX9_asks 28 = .ok (.bipush 106, 2) := by decide +kernel
theorem dX9_asks_30 : decode cX9_asks 30 = .ok (.goto 5, 3) := by decide +kernel
theorem dX9_asks_33 : decode cX9_asks 33 = .ok (.bipush 105, 2) := by decide +kernel
theorem dX9_asks_35 : decode cX9_asks 35 = .ok (.iload_n 1, 1) := by decide +kernel
theorem dX9_asks_36 : decode cX9_asks 36 = .ok (.iload_n 2, 1) := by decide +kernel
theorem dX9_asks_37 : decode cX9_asks 37 = .ok (.invokevirtual 203, 3) := by decide +kernel
theorem dX9_asks_40 : decode cX9_asks 40 = .ok (.ireturn, 1) := by decide +kernel
theorem dX9_book_0 : decode cX9_book 0 = .ok (.iload_n 1, 1) := by decide +kernel
theorem dX9_book_1 : decode cX9_book 1 = .ok (.ifCond .lt 26, 3) := by decide +kernel
theorem dX9_book_4 : decode cX9_book 4 = .ok (.iload_n 1, 1) := by decide +kernel
theorem dX9_book_5 : decode cX9_book 5 = .ok (.aload_n 0, 1) := by decide +kernel
theorem dX9_book_6 : decode cX9_book 6 = .ok (.getfield 12, 3) := by decide +kernel
theorem dX9_book_9 : decode cX9_book 9 = .ok (.getfield 213, 3) := by decide +kernel
theorem dX9_book_12 : decode cX9_book 12 = .ok (.getfield 171, 3) := by decide +kernel
theorem dX9_book_15 : decode cX9_book 15 = .ok (.if_icmp .ge 12, 3) := by decide +kernel
theorem dX9_book_18 : decode cX9_book 18 = .ok (.iload_n 2, 1) := by decide +kernel
theorem dX9_book_19 : decode cX9_book 19 = .ok (.ifCond .lt 8, 3) := by decide +kernel
theorem dX9_book_22 : decode cX9_book 22 = .ok (.iload_n 2, 1) := by decide +kernel
theorem dX9_book_23 : decode cX9_book 23 = .ok (.iconst 4, 1) := by decide +kernel
theorem dX9_book_24 : decode cX9_book 24 = .ok (.if_icmp .lt 6, 3) := by decide +kernel
theorem dX9_book_27 : decode cX9_book 27 = .ok (.bipush (-2), 2) := by decide +kernel
theorem dX9_book_29 : decode cX9_book 29 = .ok (.ireturn, 1) := by decide +kernel
theorem dX9_book_30 : decode cX9_book 30 = .ok (.aload_n 0, 1) := by decide +kernel
theorem dX9_book_31 : decode cX9_book 31 = .ok (.getfield 12, 3) := by decide +kernel
theorem dX9_book_34 : decode cX9_book 34 = .ok (.getfield 213, 3) := by decide +kernel
theorem dX9_book_37 : decode cX9_book 37 = .ok (.iload_n 1, 1) := by decide +kernel
theorem dX9_book_38 : decode cX9_book 38 = .ok (.iload_n 2, 1) := by decide +kernel
theorem dX9_book_39 : decode cX9_book 39 = .ok (.invokevirtual 216, 3) := by decide +kernel
theorem dX9_book_42 : decode cX9_book 42 = .ok (.ireturn, 1) := by decide +kernel
theorem dX9_undo_0 : decode cX9_undo 0 = .ok (.aload_n 0, 1) := by decide +kernel
theorem dX9_undo_1 : decode cX9_undo 1 = .ok (.getfield 25, 3) := by decide +kernel
theorem dX9_undo_4 : decode cX9_undo 4 = .ok (.aload_n 0, 1) := by decide +kernel
theorem dX9_undo_5 : decode cX9_undo 5 = .ok (.getfield 12, 3) := by decide +kernel
theorem dX9_undo_8 : decode cX9_undo 8 = .ok (.invokevirtual 336, 3) := by decide +kernel
theorem dX9_undo_11 : decode cX9_undo 11 = .ok (.ireturn, 1) := by decide +kernel
theorem dX9_look_0 : decode cX9_look 0 = .ok (.iload_n 1, 1) := by decide +kernel
theorem dX9_look_1 : decode cX9_look 1 = .ok (.tableswitch 210 0 13 #[71, 79, 87, 98, 106, 117, 128, 139, 150, 161, 172, 183, 194, 202], 71) := by decide +kernel
theorem dX9_look_72 : decode cX9_look 72 = .ok (.aload_n 0, 1) := by decide +kernel
theorem dX9_look_73 : decode cX9_look 73 = .ok (.getfield 12, 3) := by decide +kernel
theorem dX9_look_76 : decode cX9_look 76 = .ok (.getfield 60, 3) := by decide +kernel
theorem dX9_look_79 : decode cX9_look 79 = .ok (.ireturn, 1) := by decide +kernel
theorem dX9_look_80 : decode cX9_look 80 = .ok (.aload_n 0, 1) := by decide +kernel
theorem dX9_look_81 : decode cX9_look 81 = .ok (.getfield 12, 3) := by decide +kernel
theorem dX9_look_84 : decode cX9_look 84 = .ok (.getfield 71, 3) := by decide +kernel
theorem dX9_look_87 : decode cX9_look 87 = .ok (.ireturn, 1) := by decide +kernel
theorem dX9_look_88 : decode cX9_look 88 = .ok (.aload_n 0, 1) := by decide +kernel
theorem dX9_look_89 : decode cX9_look 89 = .ok (.getfield 12, 3) := by decide +kernel
theorem dX9_look_92 : decode cX9_look 92 = .ok (.getfield 47, 3) := by decide +kernel
theorem dX9_look_95 : decode cX9_look 95 = .ok (.getfield 133, 3) := by decide +kernel
theorem dX9_look_98 : decode cX9_look 98 = .ok (.ireturn, 1) := by decide +kernel
theorem dX9_look_99 : decode cX9_look 99 = .ok (.aload_n 0, 1) := by decide +kernel
theorem dX9_look_100 : decode cX9_look 100 = .ok (.getfield 12, 3) := by decide +kernel
theorem dX9_look_103 : decode cX9_look 103 = .ok (.getfield 81, 3) := by decide +kernel
theorem dX9_look_106 : decode cX9_look 106 = .ok (.ireturn, 1) := by decide +kernel
theorem dX9_look_107 : decode cX9_look 107 = .ok (.aload_n 0, 1) := by decide +kernel
theorem dX9_look_108 : decode cX9_look 108 = .ok (.getfield 12, 3) := by decide +kernel
theorem dX9_look_111 : decode cX9_look 111 = .ok (.getfield 47, 3) := by decide +kernel
theorem dX9_look_114 : decode cX9_look 114 = .ok (.getfield 136, 3) := by decide +kernel
theorem dX9_look_117 : decode cX9_look 117 = .ok (.ireturn, 1) := by decide +kernel
theorem dX9_look_118 : decode cX9_look 118 = .ok (.aload_n 0, 1) := by decide +kernel
theorem dX9_look_119 : decode cX9_look 119 = .ok (.getfield 12, 3) := by decide +kernel
theorem dX9_look_122 : decode cX9_look 122 = .ok (.getfield 213, 3) := by decide +kernel
theorem dX9_look_125 : decode cX9_look 125 = .ok (.getfield 171, 3) := by decide +kernel
theorem dX9_look_128 : decode cX9_look 128 = .ok (.ireturn, 1) := by decide +kernel
theorem dX9_look_129 : decode cX9_look 129 = .ok (.aload_n 0, 1) := by decide +kernel
theorem dX9_look_130 : decode cX9_look 130 = .ok (.getfield 12, 3) := by decide +kernel
theorem dX9_look_133 : decode cX9_look 133 = .ok (.getfield 47, 3) := by decide +kernel
theorem dX9_look_136 : decode cX9_look 136 = .ok (.getfield 51, 3) := by decide +kernel
theorem dX9_look_139 : decode cX9_look 139 = .ok (.ireturn, 1) := by decide +kernel
theorem dX9_look_140 : decode cX9_look 140 = .ok (.aload_n 0, 1) := by decide +kernel
theorem dX9_look_141 : decode cX9_look 141 = .ok (.getfield 12, 3) := by decide +kernel
theorem dX9_look_144 : decode cX9_look 144 = .ok (.getfield 157, 3) := by decide +kernel
theorem dX9_look_147 : decode cX9_look 147 = .ok (.getfield 240, 3) := by decide +kernel
theorem dX9_look_150 : decode cX9_look 150 = .ok (.ireturn, 1) := by decide +kernel
theorem dX9_look_151 : decode cX9_look 151 = .ok (.aload_n 0, 1) := by decide +kernel
theorem dX9_look_152 : decode cX9_look 152 = .ok (.getfield 12, 3) := by decide +kernel
theorem dX9_look_155 : decode cX9_look 155 = .ok (.getfield 176, 3) := by decide +kernel
theorem dX9_look_158 : decode cX9_look 158 = .ok (.getfield 340, 3) := by decide +kernel
theorem dX9_look_161 : decode cX9_look 161 = .ok (.ireturn, 1) := by decide +kernel
theorem dX9_look_162 : decode cX9_look 162 = .ok (.aload_n 0, 1) := by decide +kernel
theorem dX9_look_163 : decode cX9_look 163 = .ok (.getfield 12, 3) := by decide +kernel
theorem dX9_look_166 : decode cX9_look 166 = .ok (.getfield 185, 3) := by decide +kernel
theorem dX9_look_169 : decode cX9_look 169 = .ok (.getfield 171, 3) := by decide +kernel
theorem dX9_look_172 : decode cX9_look 172 = .ok (.ireturn, 1) := by decide +kernel
theorem dX9_look_173 : decode cX9_look 173 = .ok (.aload_n 0, 1) := by decide +kernel
theorem dX9_look_174 : decode cX9_look 174 = .ok (.getfield 12, 3) := by decide +kernel
theorem dX9_look_177 : decode cX9_look 177 = .ok (.getfield 167, 3) := by decide +kernel
theorem dX9_look_180 : decode cX9_look 180 = .ok (.getfield 171, 3) := by decide +kernel
theorem dX9_look_183 : decode cX9_look 183 = .ok (.ireturn, 1) := by decide +kernel
theorem dX9_look_184 : decode cX9_look 184 = .ok (.aload_n 0, 1) := by decide +kernel
theorem dX9_look_185 : decode cX9_look 185 = .ok (.getfield 12, 3) := by decide +kernel
theorem dX9_look_188 : decode cX9_look 188 = .ok (.getfield 283, 3) := by decide +kernel
theorem dX9_look_191 : decode cX9_look 191 = .ok (.getfield 171, 3) := by decide +kernel
theorem dX9_look_194 : decode cX9_look 194 = .ok (.ireturn, 1) := by decide +kernel
theorem dX9_look_195 : decode cX9_look 195 = .ok (.aload_n 0, 1) := by decide +kernel
theorem dX9_look_196 : decode cX9_look 196 = .ok (.getfield 25, 3) := by decide +kernel
theorem dX9_look_199 : decode cX9_look 199 = .ok (.getfield 341, 3) := by decide +kernel
theorem dX9_look_202 : decode cX9_look 202 = .ok (.ireturn, 1) := by decide +kernel
theorem dX9_look_203 : decode cX9_look 203 = .ok (.aload_n 0, 1) := by decide +kernel
theorem dX9_look_204 : decode cX9_look 204 = .ok (.getfield 12, 3) := by decide +kernel
theorem dX9_look_207 : decode cX9_look 207 = .ok (.invokevirtual 233, 3) := by decide +kernel
theorem dX9_look_210 : decode cX9_look 210 = .ok (.ireturn, 1) := by decide +kernel
theorem dX9_look_211 : decode cX9_look 211 = .ok (.iconst (-1), 1) := by decide +kernel
theorem dX9_look_212 : decode cX9_look 212 = .ok (.ireturn, 1) := by decide +kernel
theorem dX10_init_0 : decode cX10_init 0 = .ok (.aload_n 0, 1) := by decide +kernel
theorem dX10_init_1 : decode cX10_init 1 = .ok (.invokespecial 1, 3) := by decide +kernel
theorem dX10_init_4 : decode cX10_init 4 = .ok (.aload_n 0, 1) := by decide +kernel
theorem dX10_init_5 : decode cX10_init 5 = .ok (.iconst (-1), 1) := by decide +kernel
theorem dX10_init_6 : decode cX10_init 6 = .ok (.putfield 7, 3) := by decide +kernel
theorem dX10_init_9 : decode cX10_init 9 = .ok (.aload_n 0, 1) := by decide +kernel
theorem dX10_init_10 : decode cX10_init 10 = .ok (.iconst (-1), 1) := by decide +kernel
theorem dX10_init_11 : decode cX10_init 11 = .ok (.putfield 13, 3) := by decide +kernel
theorem dX10_init_14 : decode cX10_init 14 = .ok (.aload_n 0, 1) := by decide +kernel
theorem dX10_init_15 : decode cX10_init 15 = .ok (.bipush 14, 2) := by decide +kernel
theorem dX10_init_17 : decode cX10_init 17 = .ok (.anewarray 16, 3) := by decide +kernel
theorem dX10_init_20 : decode cX10_init 20 = .ok (.putfield 18, 3) := by decide +kernel
theorem dX10_init_23 : decode cX10_init 23 = .ok (.aload_n 0, 1) := by decide +kernel
theorem dX10_init_24 : decode cX10_init 24 = .ok (.bipush 10, 2) := by decide +kernel
theorem dX10_init_26 : decode cX10_init 26 = .ok (.anewarray 16, 3) := by decide +kernel
theorem dX10_init_29 : decode cX10_init 29 = .ok (.putfield 22, 3) := by decide +kernel
theorem dX10_init_32 : decode cX10_init 32 = .ok (.aload_n 0, 1) := by decide +kernel
theorem dX10_init_33 : decode cX10_init 33 = .ok (.iconst 0, 1) := by decide +kernel
theorem dX10_init_34 : decode cX10_init 34 = .ok (.anewarray 16, 3) := by decide +kernel
theorem dX10_init_37 : decode cX10_init 37 = .ok (.putfield 25, 3) := by decide +kernel
theorem dX10_init_40 : decode cX10_init 40 = .ok (.aload_n 0, 1) := by decide +kernel
theorem dX10_init_41 : decode cX10_init 41 = .ok (.iconst 0, 1) := by decide +kernel
theorem dX10_init_42 : decode cX10_init 42 = .ok (.anewarray 16, 3) := by decide +kernel
theorem dX10_init_45 : decode cX10_init 45 = .ok (.putfield 28, 3) := by decide +kernel
theorem dX10_init_48 : decode cX10_init 48 = .ok (.aload_n 0, 1) := by decide +kernel
theorem dX10_init_49 : decode cX10_init 49 = .ok (.sipush 150, 3) := by decide +kernel
theorem dX10_init_52 : decode cX10_init 52 = .ok (.anewarray 16, 3) := by decide +kernel
theorem dX10_init_55 : decode cX10_init 55 = .ok (.putfield 31, 3) := by decide +kernel
theorem dX10_init_58 : decode cX10_init 58 = .ok (.aload_n 0, 1) := by decide +kernel
theorem dX10_init_59 : decode cX10_init 59 = .ok (.bipush 10, 2) := by decide +kernel
theorem dX10_init_61 : decode cX10_init 61 = .ok (.bipush 10, 2) := by decide +kernel
theorem dX10_init_63 : decode cX10_init 63 = .ok (.multianewarray 34 2, 4) := by decide +kernel
theorem dX10_init_67 : decode cX10_init 67 = .ok (.putfield 35, 3) := by decide +kernel
theorem dX10_init_70 : decode cX10_init 70 = .ok (.aload_n 0, 1) := by decide +kernel
theorem dX10_init_71 : decode cX10_init 71 = .ok (.iconst 0, 1) := by decide +kernel
theorem dX10_init_72 : decode cX10_init 72 = .ok (.anewarray 34, 3) := by decide +kernel
theorem dX10_init_75 : decode cX10_init 75 = .ok (.putfield 38, 3) := by decide +kernel
theorem dX10_init_78 : decode cX10_init 78 = .ok (.iconst 0, 1) := by decide +kernel
theorem dX10_init_79 : decode cX10_init 79 = .ok (.istore_n 1, 1) := by decide +kernel
theorem dX10_init_80 : decode cX10_init 80 = .ok (.iload_n 1, 1) := by decide +kernel
theorem dX10_init_81 : decode cX10_init 81 = .ok (.bipush 10, 2) := by decide +kernel
theorem dX10_init_83 : decode cX10_init 83 = .ok (.if_icmp .ge 42, 3) := by decide +kernel
theorem dX10_init_86 : decode cX10_init 86 = .ok (.iconst 0, 1) := by decide +kernel
theorem dX10_init_87 : decode cX10_init 87 = .ok (.istore_n 2, 1) := by decide +kernel
theorem dX10_init_88 : decode cX10_init 88 = .ok (.iload_n 2, 1) := by decide +kernel
theorem dX10_init_89 : decode cX10_init 89 = .ok (.bipush 10, 2) := by decide +kernel
theorem dX10_init_91 : decode cX10_init 91 = .ok (.if_icmp .ge 28, 3) := by decide +kernel
theorem dX10_init_94 : decode cX10_init 94 = .ok (.aload_n 0, 1) := by decide +kernel
theorem dX10_init_95 : decode cX10_init 95 = .ok (.getfield 35, 3) := by decide +kernel
theorem dX10_init_98 : decode cX10_init 98 = .ok (.iload_n 1, 1) := by decide +kernel
theorem dX10_init_99 : decode cX10_init 99 = .ok (.aaload, 1) := by decide +kernel
theorem dX10_init_100 : decode cX10_init 100 = .ok (.iload_n 2, 1) := by decide +kernel
theorem dX10_init_101 : decode cX10_init 101 = .ok (.iload_n 1, 1) := by decide +kernel
theorem dX10_init_102 : decode cX10_init 102 = .ok (.iload_n 2, 1) := by decide +kernel
theorem dX10_init_103 : decode cX10_init 103 = .ok (.if_icmp .ne 7, 3) := by decide +kernel
theorem dX10_init_106 : decode cX10_init 106 = .ok (.iconst 0, 1) := by decide +kernel
theorem dX10_init_107 : decode cX10_init 107 = .ok (.goto 5, 3) := by decide +kernel
theorem dX10_init_110 : decode cX10_init 110 = .ok (.bipush 10, 2) := by decide +kernel
theorem dX10_init_112 : decode cX10_init 112 = .ok (.iastore, 1) := by decide +kernel
theorem dX10_init_113 : decode cX10_init 113 = .ok (.iinc 2 1, 3) := by decide +kernel
theorem dX10_init_116 : decode cX10_init 116 = .ok (.goto (-28), 3) := by decide +kernel
theorem dX10_init_119 : decode cX10_init 119 = .ok (.iinc 1 1, 3) := by decide +kernel
theorem dX10_init_122 : decode cX10_init 122 = .ok (.goto (-42), 3) := by decide +kernel
theorem dX10_init_125 : decode cX10_init 125 = .ok (.return_, 1) := by decide +kernel
theorem dX10_copy_0 : decode cX10_copy 0 = .ok (.new 8, 3) := by decide +kernel
theorem dX10_copy_3 : decode cX10_copy 3 = .ok (.dup, 1) := by decide +kernel
theorem dX10_copy_4 : decode cX10_copy 4 = .ok (.invokespecial 42, 3) := by decide +kernel
theorem dX10_copy_7 : decode cX10_copy 7 = .ok (.astore_n 1, 1) := by decide +kernel
theorem dX10_copy_8 : decode cX10_copy 8 = .ok (.aload_n 1, 1) := by decide +kernel
theorem dX10_copy_9 : decode cX10_copy 9 = .ok (.aload_n 0, 1) := by decide +kernel
theorem dX10_copy_10 : decode cX10_copy 10 = .ok (.getfield 43, 3) := by decide +kernel
theorem dX10_copy_13 : decode cX10_copy 13 = .ok (.putfield 43, 3) := by decide +kernel
theorem dX10_copy_16 : decode cX10_copy 16 = .ok (.aload_n 1, 1) := by decide +kernel
theorem dX10_copy_17 : decode cX10_copy 17 = .ok (.aload_n 0, 1) := by decide +kernel
theorem dX10_copy_18 : decode cX10_copy 18 = .ok (.getfield 46, 3) := by decide +kernel
theorem dX10_copy_21 : decode cX10_copy 21 = .ok (.putfield 46, 3) := by decide +kernel
theorem dX10_copy_24 : decode cX10_copy 24 = .ok (.aload_n 1, 1) := by decide +kernel
theorem dX10_copy_25 : decode cX10_copy 25 = .ok (.aload_n 0, 1) := by decide +kernel
theorem dX10_copy_26 : decode cX10_copy 26 = .ok (.getfield 49, 3) := by decide +kernel
theorem dX10_copy_29 : decode cX10_copy 29 = .ok (.putfield 49, 3) := by decide +kernel
theorem dX10_copy_32 : decode cX10_copy 32 = .ok (.aload_n 1, 1) := by decide +kernel
theorem dX10_copy_33 : decode cX10_copy 33 = .ok (.aload_n 0, 1) := by decide +kernel
theorem dX10_copy_34 : decode cX10_copy 34 = .ok (.getfield 52, 3) := by decide +kernel
theorem dX10_copy_37 : decode cX10_copy 37 = .ok (.putfield 52, 3) := by decide +kernel
theorem dX10_copy_40 : decode cX10_copy 40 = .ok (.aload_n 1, 1) := by decide +kernel
theorem dX10_copy_41 : decode cX10_copy 41 = .ok (.aload_n 0, 1) := by decide +kernel
theorem dX10_copy_42 : decode cX10_copy 42 = .ok (.getfield 55, 3) := by decide +kernel
theorem dX10_copy_45 : decode cX10_copy 45 = .ok (.putfield 55, 3) := by decide +kernel
theorem dX10_copy_48 : decode cX10_copy 48 = .ok (.aload_n 1, 1) := by decide +kernel
theorem dX10_copy_49 : decode cX10_copy 49 = .ok (.aload_n 0, 1) := by decide +kernel
theorem dX10_copy_50 : decode cX10_copy 50 = .ok (.getfield 58, 3) := by decide +kernel
theorem dX10_copy_53 : decode cX10_copy 53 = .ok (.putfield 58, 3) := by decide +kernel
theorem dX10_copy_56 : decode cX10_copy 56 = .ok (.aload_n 1, 1) := by decide +kernel
theorem dX10_copy_57 : decode cX10_copy 57 = .ok (.aload_n 0, 1) := by decide +kernel
theorem dX10_copy_58 : decode cX10_copy 58 = .ok (.getfield 25, 3) := by decide +kernel
theorem dX10_copy_61 : decode cX10_copy 61 = .ok (.putfield 25, 3) := by decide +kernel
theorem dX10_copy_64 : decode cX10_copy 64 = .ok (.aload_n 1, 1) := by decide +kernel
theorem dX10_copy_65 : decode cX10_copy 65 = .ok (.aload_n 0, 1) := by decide +kernel
theorem dX10_copy_66 : decode cX10_copy 66 = .ok (.getfield 28, 3) := by decide +kernel
theorem dX10_copy_69 : decode cX10_copy 69 = .ok (.putfield 28, 3) := by decide +kernel
theorem dX10_copy_72 : decode cX10_copy 72 = .ok (.aload_n 1, 1) := by decide +kernel
theorem dX10_copy_73 : decode cX10_copy 73 = .ok (.aload_n 0, 1) := by decide +kernel
theorem dX10_copy_74 : decode cX10_copy 74 = .ok (.getfield 38, 3) := by decide +kernel
theorem dX10_copy_77 : decode cX10_copy 77 = .ok (.putfield 38, 3) := by decide +kernel
theorem dX10_copy_80 : decode cX10_copy 80 = .ok (.aload_n 1, 1) := by decide +kernel
theorem dX10_copy_81 : decode cX10_copy 81 = .ok (.aload_n 0, 1) := by decide +kernel
theorem dX10_copy_82 : decode cX10_copy 82 = .ok (.getfield 35, 3) := by decide +kernel
theorem dX10_copy_85 : decode cX10_copy 85 = .ok (.putfield 35, 3) := by decide +kernel
theorem dX10_copy_88 : decode cX10_copy 88 = .ok (.aload_n 1, 1) := by decide +kernel
theorem dX10_copy_89 : decode cX10_copy 89 = .ok (.aload_n 0, 1) := by decide +kernel
theorem dX10_copy_90 : decode cX10_copy 90 = .ok (.getfield 61, 3) := by decide +kernel
theorem dX10_copy_93 : decode cX10_copy 93 = .ok (.putfield 61, 3) := by decide +kernel
theorem dX10_copy_96 : decode cX10_copy 96 = .ok (.iconst 0, 1) := by decide +kernel
theorem dX10_copy_97 : decode cX10_copy 97 = .ok (.istore_n 2, 1) := by decide +kernel
theorem dX10_copy_98 : decode cX10_copy 98 = .ok (.iload_n 2, 1) := by decide +kernel
theorem dX10_copy_99 : decode cX10_copy 99 = .ok (.aload_n 0, 1) := by decide +kernel
theorem dX10_copy_100 : decode cX10_copy 100 = .ok (.getfield 52, 3) := by decide +kernel
theorem dX10_copy_103 : decode cX10_copy 103 = .ok (.if_icmp .ge 27, 3) := by decide +kernel
theorem dX10_copy_106 : decode cX10_copy 106 = .ok (.aload_n 1, 1) := by decide +kernel
theorem dX10_copy_107 : decode cX10_copy 107 = .ok (.getfield 18, 3) := by decide +kernel
theorem dX10_copy_110 : decode cX10_copy 110 = .ok (.iload_n 2, 1) := by decide +kernel
theorem dX10_copy_111 : decode cX10_copy 111 = .ok (.aload_n 0, 1) := by decide +kernel
theorem dX10_copy_112 : decode cX10_copy 112 = .ok (.getfield 18, 3) := by decide +kernel
theorem dX10_copy_115 : decode cX10_copy 115 = .ok (.iload_n 2, 1) := by decide +kernel
theorem dX10_copy_116 : decode cX10_copy 116 = .ok (.aaload, 1) := by decide +kernel
theorem dX10_copy_117 : decode cX10_copy 117 = .ok (.invokevirtual 64, 3) := by decide +kernel
theorem dX10_copy_120 : decode cX10_copy 120 = .ok (.checkcast 16, 3) := by decide +kernel
theorem dX10_copy_123 : decode cX10_copy 123 = .ok (.aastore, 1) := by decide +kernel
theorem dX10_copy_124 : decode cX10_copy 124 = .ok (.iinc 2 1, 3) := by decide +kernel
theorem dX10_copy_127 : decode cX10_copy 127 = .ok (.goto (-29), 3) := by decide +kernel
theorem dX10_copy_130 : decode cX10_copy 130 = .ok (.iconst 0, 1) := by decide +kernel
theorem dX10_copy_131 : decode cX10_copy 131 = .ok (.istore_n 2, 1) := by decide +kernel
theorem dX10_copy_132 : decode cX10_copy 132 = .ok (.iload_n 2, 1) := by decide +kernel
theorem dX10_copy_133 : decode cX10_copy 133 = .ok (.aload_n 0, 1) := by decide +kernel
theorem dX10_copy_134 : decode cX10_copy 134 = .ok (.getfield 55, 3) := by decide +kernel
theorem dX10_copy_137 : decode cX10_copy 137 = .ok (.if_icmp .ge 27, 3) := by decide +kernel
theorem dX10_copy_140 : decode cX10_copy 140 = .ok (.aload_n 1, 1) := by decide +kernel
theorem dX10_copy_141 : decode cX10_copy 141 = .ok (.getfield 22, 3) := by decide +kernel
theorem dX10_copy_144 : decode cX10_copy 144 = .ok (.iload_n 2, 1) := by decide +kernel
theorem dX10_copy_145 : decode cX10_copy 145 = .ok (.aload_n 0, 1) := by decide +kernel
theorem dX10_copy_146 : decode cX10_copy 146 = .ok (.getfield 22, 3) := by decide +kernel
theorem dX10_copy_149 : decode cX10_copy 149 = .ok (.iload_n 2, 1) := by decide +kernel
theorem dX10_copy_150 : decode cX10_copy 150 = .ok (.aaload, 1) := by decide +kernel
theorem dX10_copy_151 : decode cX10_copy 151 = .ok (.invokevirtual 64, 3) := by decide +kernel
theorem dX10_copy_154 : decode cX10_copy 154 = .ok (.checkcast 16, 3) := by decide +kernel
theorem dX10_copy_157 : decode cX10_copy 157 = .ok (.aastore, 1) := by decide +kernel
theorem dX10_copy_158 : decode cX10_copy 158 = .ok (.iinc 2 1, 3) := by decide +kernel
theorem dX10_copy_161 : decode cX10_copy 161 = .ok (.goto (-29), 3) := by decide +kernel
theorem dX10_copy_164 : decode cX10_copy 164 = .ok (.iconst 0, 1) := by decide +kernel
theorem dX10_copy_165 : decode cX10_copy 165 = .ok (.istore_n 2, 1) := by decide +kernel
theorem dX10_copy_166 : decode cX10_copy 166 = .ok (.iload_n 2, 1) := by decide +kernel
theorem dX10_copy_167 : decode cX10_copy 167 = .ok (.aload_n 0, 1) := by decide +kernel
theorem dX10_copy_168 : decode cX10_copy 168 = .ok (.getfield 58, 3) := by decide +kernel
theorem dX10_copy_171 : decode cX10_copy 171 = .ok (.if_icmp .ge 21, 3) := by decide +kernel
theorem dX10_copy_174 : decode cX10_copy 174 = .ok (.aload_n 1, 1) := by decide +kernel
theorem dX10_copy_175 : decode cX10_copy 175 = .ok (.getfield 31, 3) := by decide +kernel
theorem dX10_copy_178 : decode cX10_copy 178 = .ok (.iload_n 2, 1) := by decide +kernel
theorem dX10_copy_179 : decode cX10_copy 179 = .ok (.aload_n 0, 1) := by decide +kernel
theorem dX10_copy_180 : decode cX10_copy 180 = .ok (.getfield 31, 3) := by decide +kernel
theorem dX10_copy_183 : decode cX10_copy 183 = .ok (.iload_n 2, 1) := by decide +kernel
theorem dX10_copy_184 : decode cX10_copy 184 = .ok (.aaload, 1) := by decide +kernel
theorem dX10_copy_185 : decode cX10_copy 185 = .ok (.aastore, 1) := by decide +kernel
theorem dX10_copy_186 : decode cX10_copy 186 = .ok (.iinc 2 1, 3) := by decide +kernel
theorem dX10_copy_189 : decode cX10_copy 189 = .ok (.goto (-23), 3) := by decide +kernel
theorem dX10_copy_192 : decode cX10_copy 192 = .ok (.aload_n 1, 1) := by decide +kernel
theorem dX10_copy_193 : decode cX10_copy 193 = .ok (.areturn, 1) := by decide +kernel
theorem dX10_draw_0 : decode cX10_draw 0 = .ok (.aload_n 0, 1) := by decide +kernel
theorem dX10_draw_1 : decode cX10_draw 1 = .ok (.ldc 68, 2) := by decide +kernel
theorem dX10_draw_3 : decode cX10_draw 3 = .ok (.aload_n 0, 1) := by decide +kernel
theorem dX10_draw_4 : decode cX10_draw 4 = .ok (.getfield 43, 3) := by decide +kernel
theorem dX10_draw_7 : decode cX10_draw 7 = .ok (.imul, 1) := by decide +kernel
theorem dX10_draw_8 : decode cX10_draw 8 = .ok (.ldc 69, 2) := by decide +kernel
theorem dX10_draw_10 : decode cX10_draw 10 = .ok (.iadd, 1) := by decide +kernel
theorem dX10_draw_11 : decode cX10_draw 11 = .ok (.putfield 43, 3) := by decide +kernel
theorem dX10_draw_14 : decode cX10_draw 14 = .ok (.aload_n 0, 1) := by decide +kernel
theorem dX10_draw_15 : decode cX10_draw 15 = .ok (.getfield 43, 3) := by decide +kernel
theorem dX10_draw_18 : decode cX10_draw 18 = .ok (.bipush 8, 2) := by decide +kernel
theorem dX10_draw_20 : decode cX10_draw 20 = .ok (.iushr, 1) := by decide +kernel
theorem dX10_draw_21 : decode cX10_draw 21 = .ok (.iload_n 1, 1) := by decide +kernel
theorem dX10_draw_22 : decode cX10_draw 22 = .ok (.irem, 1) := by decide +kernel
theorem dX10_draw_23 : decode cX10_draw 23 = .ok (.ireturn, 1) := by decide +kernel
theorem dX10_lapsed_0 : decode cX10_lapsed 0 = .ok (.iconst 0, 1) := by decide +kernel
theorem dX10_lapsed_1 : decode cX10_lapsed 1 = .ok (.istore_n 1, 1) := by decide +kernel
theorem dX10_lapsed_2 : decode cX10_lapsed 2 = .ok (.iconst 0, 1) := by decide +kernel
theorem dX10_lapsed_3 : decode cX10_lapsed 3 = .ok (.istore_n 2, 1) := by decide +kernel
theorem dX10_lapsed_4 : decode cX10_lapsed 4 = .ok (.iload_n 2, 1) := by decide +kernel
theorem dX10_lapsed_5 : decode cX10_lapsed 5 = .ok (.aload_n 0, 1) := by decide +kernel
theorem dX10_lapsed_6 : decode cX10_lapsed 6 = .ok (.getfield 52, 3) := by decide +kernel
theorem dX10_lapsed_9 : decode cX10_lapsed 9 = .ok (.if_icmp .ge 22, 3) := by decide +kernel
theorem dX10_lapsed_12 : decode cX10_lapsed 12 = .ok (.iload_n 1, 1) := by decide +kernel
theorem dX10_lapsed_13 : decode cX10_lapsed 13 = .ok (.aload_n 0, 1) := by decide +kernel
theorem dX10_lapsed_14 : decode cX10_lapsed 14 = .ok (.getfield 18, 3) := by decide +kernel
theorem dX10_lapsed_17 : decode cX10_lapsed 17 = .ok (.iload_n 2, 1) := by decide +kernel
theorem dX10_lapsed_18 : decode cX10_lapsed 18 = .ok (.aaload, 1) := by decide +kernel
theorem dX10_lapsed_19 : decode cX10_lapsed 19 = .ok (.iconst 2, 1) := by decide +kernel
theorem dX10_lapsed_20 : decode cX10_lapsed 20 = .ok (.iaload, 1) := by decide +kernel
theorem dX10_lapsed_21 : decode cX10_lapsed 21 = .ok (.iload_n 2, 1) := by decide +kernel
theorem dX10_lapsed_22 : decode cX10_lapsed 22 = .ok (.ishl, 1) := by decide +kernel
theorem dX10_lapsed_23 : decode cX10_lapsed 23 = .ok (.ior, 1) := by decide +kernel
theorem dX10_lapsed_24 : decode cX10_lapsed 24 = .ok (.istore_n 1, 1) := by decide +kernel
theorem dX10_lapsed_25 : decode cX10_lapsed 25 = .ok (.iinc 2 1, 3) := by decide +kernel
theorem dX10_lapsed_28 : decode cX10_lapsed 28 = .ok (.goto (-24), 3) := by decide +kernel
theorem dX10_lapsed_31 : decode cX10_lapsed 31 = .ok (.iload_n 1, 1) := by decide +kernel
theorem dX10_lapsed_32 : decode cX10_lapsed 32 = .ok (.ireturn, 1) := by decide +kernel
theorem dX10_knows_0 : decode cX10_knows 0 = .ok (.iconst 0, 1) := by decide +kernel
theorem dX10_knows_1 : decode cX10_knows 1 = .ok (.istore_n 2, 1) := by decide +kernel
theorem dX10_knows_2 : decode cX10_knows 2 = .ok (.iconst 0, 1) := by decide +kernel
theorem dX10_knows_3 : decode cX10_knows 3 = .ok (.istore_n 3, 1) := by decide +kernel
theorem dX10_knows_4 : decode cX10_knows 4 = .ok (.iload_n 3, 1) := by decide +kernel
theorem dX10_knows_5 : decode cX10_knows 5 = .ok (.aload_n 0, 1) := by decide +kernel
theorem dX10_knows_6 : decode cX10_knows 6 = .ok (.getfield 55, 3) := by decide +kernel
theorem dX10_knows_9 : decode cX10_knows 9 = .ok (.if_icmp .ge 31, 3) := by decide +kernel
theorem dX10_knows_12 : decode cX10_knows 12 = .ok (.aload_n 0, 1) := by decide +kernel
theorem dX10_knows_13 : decode cX10_knows 13 = .ok (.getfield 22, 3) := by decide +kernel
theorem dX10_knows_16 : decode cX10_knows 16 = .ok (.iload_n 3, 1) := by decide +kernel
theorem dX10_knows_17 : decode cX10_knows 17 = .ok (.aaload, 1) := by decide +kernel
theorem dX10_knows_18 : decode cX10_knows 18 = .ok (.iconst 1, 1) := by decide +kernel
theorem dX10_knows_19 : decode cX10_knows 19 = .ok (.iaload, 1) := by decide +kernel
theorem dX10_knows_20 : decode cX10_knows 20 = .ok (.iload_n 1, 1) := by decide +kernel
theorem dX10_knows_21 : decode cX10_knows 21 = .ok (.ishr, 1) := by decide +kernel
theorem dX10_knows_22 : decode cX10_knows 22 = .ok (.iconst 1, 1) := by decide +kernel
theorem dX10_knows_23 : decode cX10_knows 23 = .ok (.iand, 1) := by decide +kernel
theorem dX10_knows_24 : decode cX10_knows 24 = .ok (.iconst 1, 1) := by decide +kernel
theorem dX10_knows_25 : decode cX10_knows 25 = .ok (.if_icmp .ne 9, 3) := by decide +kernel
theorem dX10_knows_28 : decode cX10_knows 28 = .ok (.iload_n 2, 1) := by decide +kernel
theorem dX10_knows_29 : decode cX10_knows 29 = .ok (.iconst 1, 1) := by decide +kernel
theorem dX10_knows_30 : decode cX10_knows 30 = .ok (.iload_n 3, 1) := by decide +kernel
theorem dX10_knows_31 : decode cX10_knows 31 = .ok (.ishl, 1) := by decide +kernel
theorem dX10_knows_32 : decode cX10_knows 32 = .ok (.ior, 1) := by decide +kernel
theorem dX10_knows_33 : decode cX10_knows 33 = .ok (.istore_n 2, 1) := by decide +kernel
theorem dX10_knows_34 : decode cX10_knows 34 = .ok (.iinc 3 1, 3) := by decide +kernel
theorem dX10_knows_37 : decode cX10_knows 37 = .ok (.goto (-33), 3) := by decide +kernel
theorem dX10_knows_40 : decode cX10_knows 40 = .ok (.iload_n 2, 1) := by decide +kernel
theorem dX10_knows_41 : decode cX10_knows 41 = .ok (.ireturn, 1) := by decide +kernel
theorem dX10_says_0 : decode cX10_says 0 = .ok (.aload_n 0, 1) := by decide +kernel
theorem dX10_says_1 : decode cX10_says 1 = .ok (.getfield 18, 3) := by decide +kernel
theorem dX10_says_4 : decode cX10_says 4 = .ok (.iload_n 2, 1) := by decide +kernel
theorem dX10_says_5 : decode cX10_says 5 = .ok (.aaload, 1) := by decide +kernel
theorem dX10_says_6 : decode cX10_says 6 = .ok (.astore 4, 2) := by decide +kernel
theorem dX10_says_8 : decode cX10_says 8 = .ok (.aload_n 0, 1) := by decide +kernel
theorem dX10_says_9 : decode cX10_says 9 = .ok (.getfield 61, 3) := by decide +kernel
theorem dX10_says_12 : decode cX10_says 12 = .ok (.astore 5, 2) := by decide +kernel
theorem dX10_says_14 : decode cX10_says 14 = .ok (.aload 4, 2) := by decide +kernel
theorem dX10_says_16 : decode cX10_says 16 = .ok (.iconst 4, 1) := by decide +kernel
theorem dX10_says_17 : decode cX10_says 17 = .ok (.iaload, 1) := by decide +kernel
theorem dX10_says_18 : decode cX10_says 18 = .ok (.aload_n 0, 1) := by decide +kernel
theorem dX10_says_19 : decode cX10_says 19 = .ok (.invokevirtual 70, 3) := by decide +kernel
theorem dX10_says_22 : decode cX10_says 22 = .ok (.iconst (-1), 1) := by decide +kernel
theorem dX10_says_23 : decode cX10_says 23 = .ok (.ixor, 1) := by decide +kernel
theorem dX10_says_24 : decode cX10_says 24 = .ok (.iand, 1) := by decide +kernel
theorem dX10_says_25 : decode cX10_says 25 = .ok (.invokestatic 74, 3) := by decide +kernel
theorem dX10_says_28 : decode cX10_says 28 = .ok (.istore 6, 2) := by decide +kernel
theorem dX10_says_30 : decode cX10_says 30 = .ok (.aload_n 0, 1) := by decide +kernel
theorem dX10_says_31 : decode cX10_says 31 = .ok (.iload_n 2, 1) := by decide +kernel
theorem dX10_says_32 : decode cX10_says 32 = .ok (.invokevirtual 80, 3) := by decide +kernel
theorem dX10_says_35 : decode cX10_says 35 = .ok (.invokestatic 74, 3) := by decide +kernel
theorem dX10_says_38 : decode cX10_says 38 = .ok (.istore 7, 2) := by decide +kernel
theorem dX10_says_40 : decode cX10_says 40 = .ok (.aload 5, 2) := by decide +kernel
theorem dX10_says_42 : decode cX10_says 42 = .ok (.ifnonnull 27, 3) := by decide +kernel
theorem dX10_says_45 : decode cX10_says 45 = .ok (.iload_n 1, 1) := by decide +kernel
theorem dX10_says_46 : decode cX10_says 46 = .ok (.ifCond .ne 9, 3) := by decide +kernel
theorem dX10_says_49 : decode cX10_says 49 = .ok (.sipush 365, 3) := by decide +kernel
theorem dX10_says_52 : decode cX10_says 52 = .ok (.goto 16, 3) := by decide +kernel
theorem dX10_says_55 : decode cX10_says 55 = .ok (.iload_n 1, 1) := by decide +kernel
theorem dX10_says_56 : decode cX10_says 56 = .ok (.iconst 1, 1) := by decide +kernel
theorem dX10_says_57 : decode cX10_says 57 = .ok (.if_icmp .ne 7, 3) := by decide +kernel
theorem dX10_says_60 : decode cX10_says 60 = .ok (.iconst 2, 1) := by decide +kernel
theorem dX10_says_61 : decode cX10_says 61 = .ok (.goto 7, 3) := by decide +kernel
theorem dX10_says_64 : decode cX10_says 64 = .ok (.aload 4, 2) := by decide +kernel
theorem dX10_says_66 : decode cX10_says 66 = .ok (.iconst 0, 1) := by decide +kernel
theorem dX10_says_67 : decode cX10_says 67 = .ok (.iaload, 1) := by decide +kernel
theorem dX10_says_68 : decode cX10_says 68 = .ok (.ireturn, 1) := by decide +kernel
theorem dX10_says_69 : decode cX10_says 69 = .ok (.iload_n 1, 1) := by decide +kernel
theorem dX10_says_70 : decode cX10_says 70 = .ok (.ifCond .ne 71, 3) := by decide +kernel
theorem dX10_says_73 : decode cX10_says 73 = .ok (.aload 4, 2) := by decide +kernel
theorem dX10_says_75 : decode cX10_says 75 = .ok (.iconst 0, 1) := by decide +kernel
theorem dX10_says_76 : decode cX10_says 76 = .ok (.iaload, 1) := by decide +kernel
theorem dX10_says_77 : decode cX10_says 77 = .ok (.aload 5, 2) := by decide +kernel
theorem dX10_says_79 : decode cX10_says 79 = .ok (.iconst 0, 1) := by decide +kernel
theorem dX10_says_80 : decode cX10_says 80 = .ok (.iaload, 1) := by decide +kernel
theorem dX10_says_81 : decode cX10_says 81 = .ok (.if_icmp .le 36, 3) := by decide +kernel
theorem dX10_says_84 : decode cX10_says 84 = .ok (.iload 7, 2) := by decide +kernel
theorem dX10_says_86 : decode cX10_says 86 = .ok (.iconst 3, 1) := by decide +kernel
theorem dX10_says_87 : decode cX10_says 87 = .ok (.if_icmp .lt 30, 3) := by decide +kernel
theorem dX10_says_90 : decode cX10_says 90 = .ok (.iload_n 2, 1) := by decide +kernel
theorem dX10_says_91 : decode cX10_says 91 = .ok (.aload 5, 2) := by decide +kernel
theorem dX10_says_93 : decode cX10_says 93 = .ok (.iconst 1, 1) := by decide +kernel
theorem dX10_says_94 : decode cX10_says 94 = .ok (.iaload, 1) := by decide +kernel
theorem dX10_says_95 : decode cX10_says 95 = .ok (.if_icmp .eq 22, 3) := by decide +kernel
theorem dX10_says_98 : decode cX10_says 98 = .ok (.aload 5, 2) := by decide +kernel
theorem dX10_says_100 : decode cX10_says 100 = .ok (.iconst 2, 1) := by decide +kernel
theorem dX10_says_101 : decode cX10_says 101 = .ok (.iaload, 1) := by decide +kernel
theorem dX10_says_102 : decode cX10_says 102 = .ok (.iload 6, 2) := by decide +kernel
theorem dX10_says_104 : decode cX10_says 104 = .ok (.iconst 5, 1) := by decide +kernel
theorem dX10_says_105 : decode cX10_says 105 = .ok (.imul, 1) := by decide +kernel
theorem dX10_says_106 : decode cX10_says 106 = .ok (.iadd, 1) := by decide +kernel
theorem dX10_says_107 : decode cX10_says 107 = .ok (.iconst 1, 1) := by decide +kernel
theorem dX10_says_108 : decode cX10_says 108 = .ok (.sipush 9999, 3) := by decide +kernel
theorem dX10_says_111 : decode cX10_says 111 = .ok (.invokestatic 83, 3) := by decide +kernel
theorem dX10_says_114 : decode cX10_says 114 = .ok (.goto 26, 3) := by decide +kernel
theorem dX10_says_117 : decode cX10_says 117 = .ok (.aload 5, 2) := by decide +kernel
theorem dX10_says_119 : decode cX10_says 119 = .ok (.iconst 3, 1) := by decide +kernel
theorem dX10_says_120 : decode cX10_says 120 = .ok (.iaload, 1) := by decide +kernel
theorem dX10_says_121 : decode cX10_says 121 = .ok (.aload 4, 2) := by decide +kernel
theorem dX10_says_123 : decode cX10_says 123 = .ok (.iconst 3, 1) := by decide +kernel
theorem dX10_says_124 : decode cX10_says 124 = .ok (.iaload, 1) := by decide +kernel
theorem dX10_says_125 : decode cX10_says 125 = .ok (.iadd, 1) := by decide +kernel
theorem dX10_says_126 : decode cX10_says 126 = .ok (.aload_n 0, 1) := by decide +kernel
theorem dX10_says_127 : decode cX10_says 127 = .ok (.getfield 46, 3) := by decide +kernel
theorem dX10_says_130 : decode cX10_says 130 = .ok (.iconst 3, 1) := by decide +kernel
theorem dX10_says_131 : decode cX10_says 131 = .ok (.irem, 1) := by decide +kernel
theorem dX10_says_132 : decode cX10_says 132 = .ok (.isub, 1) := by decide +kernel
theorem dX10_says_133 : decode cX10_says 133 = .ok (.iconst 1, 1) := by decide +kernel
theorem dX10_says_134 : decode cX10_says 134 = .ok (.sipush 9999, 3) := by decide +kernel
theorem dX10_says_137 : decode cX10_says 137 = .ok (.invokestatic 83, 3) := by decide +kernel
theorem dX10_says_140 : decode cX10_says 140 = .ok (.ireturn, 1) := by decide +kernel
theorem dX10_says_141 : decode cX10_says 141 = .ok (.iload_n 1, 1) := by decide +kernel
theorem dX10_says_142 : decode cX10_says 142 = .ok (.iconst 1, 1) := by decide +kernel
theorem dX10_says_143 : decode cX10_says 143 = .ok (.if_icmp .ne 43, 3) := by decide +kernel
theorem dX10_says_146 : decode cX10_says 146 = .ok (.aload 4, 2) := by decide +kernel
theorem dX10_says_148 : decode cX10_says 148 = .ok (.iconst 1, 1) := by decide +kernel
theorem dX10_says_149 : decode cX10_says 149 = .ok (.iaload, 1) := by decide +kernel
theorem dX10_says_150 : decode cX10_says 150 = .ok (.aload 5, 2) := by decide +kernel
theorem dX10_says_152 : decode cX10_says 152 = .ok (.iconst 4, 1) := by decide +kernel
theorem dX10_says_153 : decode cX10_says 153 = .ok (.iaload, 1) := by decide +kernel
theorem dX10_says_154 : decode cX10_says 154 = .ok (.if_icmp .gt 8, 3) := by decide +kernel
theorem dX10_says_157 : decode cX10_says 157 = .ok (.iload_n 3, 1) := by decide +kernel
theorem dX10_says_158 : decode cX10_says 158 = .ok (.iconst 3, 1) := by decide +kernel
theorem dX10_says_159 : decode cX10_says 159 = .ok (.if_icmp .ne 16, 3) := by decide +kernel
theorem dX10_says_162 : decode cX10_says 162 = .ok (.iload 7, 2) := by decide +kernel
theorem dX10_says_164 : decode cX10_says 164 = .ok (.iconst 2, 1) := by decide +kernel
theorem dX10_says_165 : decode cX10_says 165 = .ok (.idiv, 1) := by decide +kernel
theorem dX10_says_166 : decode cX10_says 166 = .ok (.iconst 0, 1) := by decide +kernel
theorem dX10_says_167 : decode cX10_says 167 = .ok (.bipush 9, 2) := by decide +kernel
theorem dX10_says_169 : decode cX10_says 169 = .ok (.invokestatic 83, 3) := by decide +kernel
theorem dX10_says_172 : decode cX10_says 172 = .ok (.goto 13, 3) := by decide +kernel
theorem dX10_says_175 : decode cX10_says 175 = .ok (.aload 5, 2) := by decide +kernel
theorem dX10_says_177 : decode cX10_says 177 = .ok (.iconst 5, 1) := by decide +kernel
theorem dX10_says_178 : decode cX10_says 178 = .ok (.iaload, 1) := by decide +kernel
theorem dX10_says_179 : decode cX10_says 179 = .ok (.iconst 0, 1) := by decide +kernel
theorem dX10_says_180 : decode cX10_says 180 = .ok (.bipush 9, 2) := by decide +kernel
theorem dX10_says_182 : decode cX10_says 182 = .ok (.invokestatic 83, 3) := by decide +kernel
theorem dX10_says_185 : decode cX10_says 185 = .ok (.ireturn, 1) := by decide +kernel
theorem dX10_says_186 : decode cX10_says 186 = .ok (.aload 4, 2) := by decide +kernel
theorem dX10_says_188 : decode cX10_says 188 = .ok (.iconst 0, 1) := by decide +kernel
theorem dX10_says_189 : decode cX10_says 189 = .ok (.iaload, 1) := by decide +kernel
theorem dX10_says_190 : decode cX10_says 190 = .ok (.aload 5, 2) := by decide +kernel
theorem dX10_says_192 : decode cX10_says 192 = .ok (.bipush 6, 2) := by decide +kernel
theorem dX10_says_194 : decode cX10_says 194 = .ok (.iaload, 1) := by decide +kernel
theorem dX10_says_195 : decode cX10_says 195 = .ok (.iadd, 1) := by decide +kernel
theorem dX10_says_196 : decode cX10_says 196 = .ok (.aload 4, 2) := by decide +kernel
theorem dX10_says_198 : decode cX10_says 198 = .ok (.iconst 1, 1) := by decide +kernel
theorem dX10_says_199 : decode cX10_says 199 = .ok (.iaload, 1) := by decide +kernel
theorem dX10_says_200 : decode cX10_says 200 = .ok (.iconst 5, 1) := by decide +kernel
theorem dX10_says_201 : decode cX10_says 201 = .ok (.idiv, 1) := by decide +kernel
theorem dX10_says_202 : decode cX10_says 202 = .ok (.isub, 1) := by decide +kernel
theorem dX10_says_203 : decode cX10_says 203 = .ok (.iconst 0, 1) := by decide +kernel
theorem dX10_says_204 : decode cX10_says 204 = .ok (.bipush 99, 2) := by decide +kernel
theorem dX10_says_206 : decode cX10_says 206 = .ok (.invokestatic 83, 3) := by decide +kernel
theorem dX10_says_209 : decode cX10_says 209 = .ok (.ireturn, 1) := by decide +kernel
theorem dX10_notes_0 : decode cX10_notes 0 = .ok (.iload 4, 2) := by decide +kernel
theorem dX10_notes_2 : decode cX10_notes 2 = .ok (.ifCond .eq 51, 3) := by decide +kernel
theorem dX10_notes_5 : decode cX10_notes 5 = .ok (.aload_n 0, 1) := by decide +kernel
theorem dX10_notes_6 : decode cX10_notes 6 = .ok (.getfield 58, 3) := by decide +kernel
theorem dX10_notes_9 : decode cX10_notes 9 = .ok (.sipush 150, 3) := by decide +kernel
theorem dX10_notes_12 : decode cX10_notes 12 = .ok (.if_icmp .ge 41, 3) := by decide +kernel
theorem dX10_notes_15 : decode cX10_notes 15 = .ok (.aload_n 0, 1) := by decide +kernel
theorem dX10_notes_16 : decode cX10_notes 16 = .ok (.getfield 31, 3) := by decide +kernel
theorem dX10_notes_19 : decode cX10_notes 19 = .ok (.aload_n 0, 1) := by decide +kernel
theorem dX10_notes_20 : decode cX10_notes 20 = .ok (.dup, 1) := by decide +kernel
theorem dX10_notes_21 : decode cX10_notes 21 = .ok (.getfield 58, 3) := by decide +kernel
theorem dX10_notes_24 : decode cX10_notes 24 = .ok (.dup_x1, 1) := by decide +kernel
theorem dX10_notes_25 : decode cX10_notes 25 = .ok (.iconst 1, 1) := by decide +kernel
theorem dX10_notes_26 : decode cX10_notes 26 = .ok (.iadd, 1) := by decide +kernel
theorem dX10_notes_27 : decode cX10_notes 27 = .ok (.putfield 58, 3) := by decide +kernel
theorem dX10_notes_30 : decode cX10_notes 30 = .ok (.iconst 4, 1) := by decide +kernel
theorem dX10_notes_31 : decode cX10_notes 31 = .ok (.newarray .int, 2) := by decide +kernel
theorem dX10_notes_33 : decode cX10_notes 33 = .ok (.dup, 1) := by decide +kernel
theorem dX10_notes_34 : decode cX10_notes 34 = .ok (.iconst 0, 1) := by decide +kernel
theorem dX10_notes_35 : decode cX10_notes 35 = .ok (.aload_n 0, 1) := by decide +kernel
theorem dX10_notes_36 : decode cX10_notes 36 = .ok (.getfield 46, 3) := by decide +kernel
theorem dX10_notes_39 : decode cX10_notes 39 = .ok (.iastore, 1) := by decide +kernel
theorem dX10_notes_40 : decode cX10_notes 40 = .ok (.dup, 1) := by decide +kernel
theorem dX10_notes_41 : decode cX10_notes 41 = .ok (.iconst 1, 1) := by decide +kernel
theorem dX10_notes_42 : decode cX10_notes 42 = .ok (.iload_n 1, 1) := by decide +kernel
theorem dX10_notes_43 : decode cX10_notes 43 = .ok (.iastore, 1) := by decide +kernel
theorem dX10_notes_44 : decode cX10_notes 44 = .ok (.dup, 1) := by decide +kernel
theorem dX10_notes_45 : decode cX10_notes 45 = .ok (.iconst 2, 1) := by decide +kernel
theorem dX10_notes_46 : decode cX10_notes 46 = .ok (.iload_n 2, 1) := by decide +kernel
theorem dX10_notes_47 : decode cX10_notes 47 = .ok (.iastore, 1) := by decide +kernel
theorem dX10_notes_48 : decode cX10_notes 48 = .ok (.dup, 1) := by decide +kernel
theorem dX10_notes_49 : decode cX10_notes 49 = .ok (.iconst 3, 1) := by decide +kernel
theorem dX10_notes_50 : decode cX10_notes 50 = .ok (.iload_n 3, 1) := by decide +kernel
theorem dX10_notes_51 : decode cX10_notes 51 = .ok (.iastore, 1) := by decide +kernel
theorem dX10_notes_52 : decode cX10_notes 52 = .ok (.aastore, 1) := by decide +kernel
theorem dX10_notes_53 : decode cX10_notes 53 = .ok (.return_, 1) := by decide +kernel
theorem dX10_can_0 : decode cX10_can 0 = .ok (.iload_n 1, 1) := by decide +kernel
theorem dX10_can_1 : decode cX10_can 1 = .ok (.aload_n 0, 1) := by decide +kernel
theorem dX10_can_2 : decode cX10_can 2 = .ok (.getfield 55, 3) := by decide +kernel
theorem dX10_can_5 : decode cX10_can 5 = .ok (.if_icmp .ge 67, 3) := by decide +kernel
theorem dX10_can_8 : decode cX10_can 8 = .ok (.iload_n 2, 1) := by decide +kernel
theorem dX10_can_9 : decode cX10_can 9 = .ok (.aload_n 0, 1) := by decide +kernel
theorem dX10_can_10 : decode cX10_can 10 = .ok (.getfield 52, 3) := by decide +kernel
theorem dX10_can_13 : decode cX10_can 13 = .ok (.if_icmp .ge 59, 3) := by decide +kernel
theorem dX10_can_16 : decode cX10_can 16 = .ok (.aload_n 0, 1) := by decide +kernel
theorem dX10_can_17 : decode cX10_can 17 = .ok (.getfield 22, 3) := by decide +kernel
theorem dX10_can_20 : decode cX10_can 20 = .ok (.iload_n 1, 1) := by decide +kernel
theorem dX10_can_21 : decode cX10_can 21 = .ok (.aaload, 1) := by decide +kernel
theorem dX10_can_22 : decode cX10_can 22 = .ok (.iconst 1, 1) := by decide +kernel
theorem dX10_can_23 : decode cX10_can 23 = .ok (.iaload, 1) := by decide +kernel
theorem dX10_can_24 : decode cX10_can 24 = .ok (.iload_n 2, 1) := by decide +kernel
theorem dX10_can_25 : decode cX10_can 25 = .ok (.ishr, 1) := by decide +kernel
theorem dX10_can_26 : decode cX10_can 26 = .ok (.iconst 1, 1) := by decide +kernel
theorem dX10_can_27 : decode cX10_can 27 = .ok (.iand, 1) := by decide +kernel
theorem dX10_can_28 : decode cX10_can 28 = .ok (.iconst 1, 1) := by decide +kernel
theorem dX10_can_29 : decode cX10_can 29 = .ok (.if_icmp .ne 43, 3) := by decide +kernel
theorem dX10_can_32 : decode cX10_can 32 = .ok (.aload_n 0, 1) := by decide +kernel
theorem dX10_can_33 : decode cX10_can 33 = .ok (.getfield 18, 3) := by decide +kernel
theorem dX10_can_36 : decode cX10_can 36 = .ok (.iload_n 2, 1) := by decide +kernel
theorem dX10_can_37 : decode cX10_can 37 = .ok (.aaload, 1) := by decide +kernel
theorem dX10_can_38 : decode cX10_can 38 = .ok (.iconst 2, 1) := by decide +kernel
theorem dX10_can_39 : decode cX10_can 39 = .ok (.iaload, 1) := by decide +kernel
theorem dX10_can_40 : decode cX10_can 40 = .ok (.ifCond .ne 32, 3) := by decide +kernel
theorem dX10_can_43 : decode cX10_can 43 = .ok (.aload_n 0, 1) := by decide +kernel
theorem dX10_can_44 : decode cX10_can 44 = .ok (.getfield 22, 3) := by decide +kernel
theorem dX10_can_47 : decode cX10_can 47 = .ok (.iload_n 1, 1) := by decide +kernel
theorem dX10_can_48 : decode cX10_can 48 = .ok (.aaload, 1) := by decide +kernel
theorem dX10_can_49 : decode cX10_can 49 = .ok (.iconst 2, 1) := by decide +kernel
theorem dX10_can_50 : decode cX10_can 50 = .ok (.iaload, 1) := by decide +kernel
theorem dX10_can_51 : decode cX10_can 51 = .ok (.aload_n 0, 1) := by decide +kernel
theorem dX10_can_52 : decode cX10_can 52 = .ok (.iconst 2, 1) := by decide +kernel
theorem dX10_can_53 : decode cX10_can 53 = .ok (.iload_n 2, 1) := by decide +kernel
theorem dX10_can_54 : decode cX10_can 54 = .ok (.aload_n 0, 1) := by decide +kernel
theorem dX10_can_55 : decode cX10_can 55 = .ok (.getfield 22, 3) := by decide +kernel
theorem dX10_can_58 : decode cX10_can 58 = .ok (.iload_n 1, 1) := by decide +kernel
theorem dX10_can_59 : decode cX10_can 59 = .ok (.aaload, 1) := by decide +kernel
theorem dX10_can_60 : decode cX10_can 60 = .ok (.iconst 0, 1) := by decide +kernel
theorem dX10_can_61 : decode cX10_can 61 = .ok (.iaload, 1) := by decide +kernel
theorem dX10_can_62 : decode cX10_can 62 = .ok (.invokevirtual 89, 3) := by decide +kernel
theorem dX10_can_65 : decode cX10_can 65 = .ok (.if_icmp .lt 7, 3) := by decide +kernel
theorem dX10_can_68 : decode cX10_can 68 = .ok (.iconst 1, 1) := by decide +kernel
theorem dX10_can_69 : decode cX10_can 69 = .ok (.goto 4, 3) := by decide +kernel
theorem dX10_can_72 : decode cX10_can 72 = .ok (.iconst 0, 1) := by decide +kernel
theorem dX10_can_73 : decode cX10_can 73 = .ok (.ireturn, 1) := by decide +kernel
theorem dX10_says__0 : decode cX10_says_ 0 = .ok (.aload_n 0, 1) := by decide +kernel
theorem dX10_says__1 : decode cX10_says_ 1 = .ok (.getfield 22, 3) := by decide +kernel
theorem dX10_says__4 : decode cX10_says_ 4 = .ok (.iload_n 1, 1) := by decide +kernel
theorem dX10_says__5 : decode cX10_says_ 5 = .ok (.aaload, 1) := by decide +kernel
theorem dX10_says__6 : decode cX10_says_ 6 = .ok (.iconst 0, 1) := by decide +kernel
theorem dX10_says__7 : decode cX10_says_ 7 = .ok (.iaload, 1) := by decide +kernel
theorem dX10_says__8 : decode cX10_says_ 8 = .ok (.istore 4, 2) := by decide +kernel
theorem dX10_says__10 : decode cX10_says_ 10 = .ok (.iconst (-1), 1) := by decide +kernel
theorem dX10_says__11 : decode cX10_says_ 11 = .ok (.istore 5, 2) := by decide +kernel
theorem dX10_says__13 : decode cX10_says_ 13 = .ok (.iconst 0, 1) := by decide +kernel
theorem dX10_says__14 : decode cX10_says_ 14 = .ok (.istore 6, 2) := by decide +kernel
theorem dX10_says__16 : decode cX10_says_ 16 = .ok (.iload 6, 2) := by decide +kernel
theorem dX10_says__18 : decode cX10_says_ 18 = .ok (.aload_n 0, 1) := by decide +kernel
theorem dX10_says__19 : decode cX10_says_ 19 = .ok (.getfield 55, 3) := by decide +kernel
theorem dX10_says__22 : decode cX10_says_ 22 = .ok (.if_icmp .ge 43, 3) := by decide +kernel
theorem dX10_says__25 : decode cX10_says_ 25 = .ok (.aload_n 0, 1) := by decide +kernel
theorem dX10_says__26 : decode cX10_says_ 26 = .ok (.getfield 22, 3) := by decide +kernel
theorem dX10_says__29 : decode cX10_says_ 29 = .ok (.iload 6, 2) := by decide +kernel
theorem dX10_says__31 : decode cX10_says_ 31 = .ok (.aaload, 1) := by decide +kernel
theorem dX10_says__32 : decode cX10_says_ 32 = .ok (.iconst 0, 1) := by decide +kernel
theorem dX10_says__33 : decode cX10_says_ 33 = .ok (.iaload, 1) := by decide +kernel
theorem dX10_says__34 : decode cX10_says_ 34 = .ok (.iload 4, 2) := by decide +kernel
theorem dX10_says__36 : decode cX10_says_ 36 = .ok (.if_icmp .ne 23, 3) := by decide +kernel
theorem dX10_says__39 : decode cX10_says_ 39 = .ok (.aload_n 0, 1) := by decide +kernel
theorem dX10_says__40 : decode cX10_says_ 40 = .ok (.getfield 22, 3) := by decide +kernel
theorem dX10_says__43 : decode cX10_says_ 43 = .ok (.iload 6, 2) := by decide +kernel
theorem dX10_says__45 : decode cX10_says_ 45 = .ok (.aaload, 1) := by decide +kernel
theorem dX10_says__46 : decode cX10_says_ 46 = .ok (.iconst 1, 1) := by decide +kernel
theorem dX10_says__47 : decode cX10_says_ 47 = .ok (.iaload, 1) := by decide +kernel
theorem dX10_says__48 : decode cX10_says_ 48 = .ok (.iload_n 2, 1) := by decide +kernel
theorem dX10_says__49 : decode cX10_says_ 49 = .ok (.ishr, 1) := by decide +kernel
theorem dX10_says__50 : decode cX10_says_ 50 = .ok (.iconst 1, 1) := by decide +kernel
theorem dX10_says__51 : decode cX10_says_ 51 = .ok (.iand, 1) := by decide +kernel
theorem dX10_says__52 : decode cX10_says_ 52 = .ok (.iconst 1, 1) := by decide +kernel
theorem dX10_says__53 : decode cX10_says_ 53 = .ok (.if_icmp .ne 6, 3) := by decide +kernel
theorem dX10_says__56 : decode cX10_says_ 56 = .ok (.iinc 5 1, 3) := by decide +kernel
theorem dX10_says__59 : decode cX10_says_ 59 = .ok (.iinc 6 1, 3) := by decide +kernel
theorem dX10_says__62 : decode cX10_says_ 62 = .ok (.goto (-46), 3) := by decide +kernel
theorem dX10_says__65 : decode cX10_says_ 65 = .ok (.iload 5, 2) := by decide +kernel
theorem dX10_says__67 : decode cX10_says_ 67 = .ok (.aload_n 0, 1) := by decide +kernel
theorem dX10_says__68 : decode cX10_says_ 68 = .ok (.iconst 1, 1) := by decide +kernel
theorem dX10_says__69 : decode cX10_says_ 69 = .ok (.iload_n 2, 1) := by decide +kernel
theorem dX10_says__70 : decode cX10_says_ 70 = .ok (.iload 4, 2) := by decide +kernel
theorem dX10_says__72 : decode cX10_says_ 72 = .ok (.invokevirtual 89, 3) := by decide +kernel
theorem dX10_says__75 : decode cX10_says_ 75 = .ok (.if_icmp .lt 7, 3) := by decide +kernel
theorem dX10_says__78 : decode cX10_says_ 78 = .ok (.iconst 1, 1) := by decide +kernel
theorem dX10_says__79 : decode cX10_says_ 79 = .ok (.goto 4, 3) := by decide +kernel
theorem dX10_says__82 : decode cX10_says_ 82 = .ok (.iconst 0, 1) := by decide +kernel
theorem dX10_says__83 : decode cX10_says_ 83 = .ok (.istore 6, 2) := by decide +kernel
theorem dX10_says__85 : decode cX10_says_ 85 = .ok (.aload_n 0, 1) := by decide +kernel
theorem dX10_says__86 : decode cX10_says_ 86 = .ok (.getfield 22, 3) := by decide +kernel
theorem dX10_says__89 : decode cX10_says_ 89 = .ok (.iload_n 1, 1) := by decide +kernel
theorem dX10_says__90 : decode cX10_says_ 90 = .ok (.aaload, 1) := by decide +kernel
theorem dX10_says__91 : decode cX10_says_ 91 = .ok (.iconst 2, 1) := by decide +kernel
theorem dX10_says__92 : decode cX10_says_ 92 = .ok (.dup2, 1) := by decide +kernel
theorem dX10_says__93 : decode cX10_says_ 93 = .ok (.iaload, 1) := by decide +kernel
theorem dX10_says__94 : decode cX10_says_ 94 = .ok (.aload_n 0, 1) := by decide +kernel
theorem dX10_says__95 : decode cX10_says_ 95 = .ok (.iconst 2, 1) := by decide +kernel
theorem dX10_says__96 : decode cX10_says_ 96 = .ok (.iload_n 2, 1) := by decide +kernel
theorem dX10_says__97 : decode cX10_says_ 97 = .ok (.iload 4, 2) := by decide +kernel
theorem dX10_says__99 : decode cX10_says_ 99 = .ok (.invokevirtual 89, 3) := by decide +kernel
theorem dX10_says__102 : decode cX10_says_ 102 = .ok (.isub, 1) := by decide +kernel
theorem dX10_says__103 : decode cX10_says_ 103 = .ok (.iastore, 1) := by decide +kernel
theorem dX10_says__104 : decode cX10_says_ 104 = .ok (.aload_n 0, 1) := by decide +kernel
theorem dX10_says__105 : decode cX10_says_ 105 = .ok (.iload 6, 2) := by decide +kernel
theorem dX10_says__107 : decode cX10_says_ 107 = .ok (.ifCond .eq 7, 3) := by decide +kernel
theorem dX10_says__110 : decode cX10_says_ 110 = .ok (.iconst 0, 1) := by decide +kernel
theorem dX10_says__111 : decode cX10_says_ 111 = .ok (.goto 4, 3) := by decide +kernel
theorem dX10_says__114 : decode cX10_says_ 114 = .ok (.iconst 1, 1) := by decide +kernel
theorem dX10_says__115 : decode cX10_says_ 115 = .ok (.iload_n 1, 1) := by decide +kernel
theorem dX10_says__116 : decode cX10_says_ 116 = .ok (.iload_n 2, 1) := by decide +kernel
theorem dX10_says__117 : decode cX10_says_ 117 = .ok (.iload_n 3, 1) := by decide +kernel
theorem dX10_says__118 : decode cX10_says_ 118 = .ok (.invokevirtual 92, 3) := by decide +kernel
theorem dX10_says__121 : decode cX10_says_ 121 = .ok (.iload 6, 2) := by decide +kernel
theorem dX10_says__123 : decode cX10_says_ 123 = .ok (.ifCond .ne 5, 3) := by decide +kernel
theorem dX10_says__126 : decode cX10_says_ 126 = .ok (.iconst 0, 1) := by decide +kernel
theorem dX10_says__127 : decode cX10_says_ 127 = .ok (.ireturn, 1) := by decide +kernel
theorem dX10_says__128 : decode cX10_says_ 128 = .ok (.aload_n 0, 1) := by decide +kernel
theorem dX10_says__129 : decode cX10_says_ 129 = .ok (.getfield 18, 3) := by decide +kernel
theorem dX10_says__132 : decode cX10_says_ 132 = .ok (.iload_n 2, 1) := by decide +kernel
theorem dX10_says__133 : decode cX10_says_ 133 = .ok (.aaload, 1) := by decide +kernel
theorem dX10_says__134 : decode cX10_says_ 134 = .ok (.iconst 1, 1) := by decide +kernel
theorem dX10_says__135 : decode cX10_says_ 135 = .ok (.iconst 0, 1) := by decide +kernel
theorem dX10_says__136 : decode cX10_says_ 136 = .ok (.iastore, 1) := by decide +kernel
theorem dX10_says__137 : decode cX10_says_ 137 = .ok (.aload_n 0, 1) := by decide +kernel
theorem dX10_says__138 : decode cX10_says_ 138 = .ok (.getfield 18, 3) := by decide +kernel
theorem dX10_says__141 : decode cX10_says_ 141 = .ok (.iload_n 2, 1) := by decide +kernel
theorem dX10_says__142 : decode cX10_says_ 142 = .ok (.aaload, 1) := by decide +kernel
theorem dX10_says__143 : decode cX10_says_ 143 = .ok (.iconst 3, 1) := by decide +kernel
theorem dX10_says__144 : decode cX10_says_ 144 = .ok (.dup2, 1) := by decide +kernel
theorem dX10_says__145 : decode cX10_says_ 145 = .ok (.iaload, 1) := by decide +kernel
theorem dX10_says__146 : decode cX10_says_ 146 = .ok (.iconst 1, 1) := by decide +kernel
theorem dX10_says__147 : decode cX10_says_ 147 = .ok (.iadd, 1) := by decide +kernel
theorem dX10_says__148 : decode cX10_says_ 148 = .ok (.iastore, 1) := by decide +kernel
theorem dX10_says__149 : decode cX10_says_ 149 = .ok (.iconst 0, 1) := by decide +kernel
theorem dX10_says__150 : decode cX10_says_ 150 = .ok (.istore 7, 2) := by decide +kernel
theorem dX10_says__152 : decode cX10_says_ 152 = .ok (.iload 7, 2) := by decide +kernel
theorem dX10_says__154 : decode cX10_says_ 154 = .ok (.aload_n 0, 1) := by decide +kernel
theorem dX10_says__155 : decode cX10_says_ 155 = .ok (.getfield 52, 3) := by decide +kernel
theorem dX10_says__158 : decode cX10_says_ 158 = .ok (.if_icmp .ge 51, 3) := by decide +kernel
theorem dX10_says__161 : decode cX10_says_ 161 = .ok (.aload_n 0, 1) := by decide +kernel
theorem dX10_says__162 : decode cX10_says_ 162 = .ok (.getfield 18, 3) := by decide +kernel
theorem dX10_says__165 : decode cX10_says_ 165 = .ok (.iload_n 2, 1) := by decide +kernel
theorem dX10_says__166 : decode cX10_says_ 166 = .ok (.aaload, 1) := by decide +kernel
theorem dX10_says__167 : decode cX10_says_ 167 = .ok (.iconst 4, 1) := by decide +kernel
theorem dX10_says__168 : decode cX10_says_ 168 = .ok (.iaload, 1) := by decide +kernel
theorem dX10_says__169 : decode cX10_says_ 169 = .ok (.iload 7, 2) := by decide +kernel
theorem dX10_says__171 : decode cX10_says_ 171 = .ok (.ishr, 1) := by decide +kernel
theorem dX10_says__172 : decode cX10_says_ 172 = .ok (.iconst 1, 1) := by decide +kernel
theorem dX10_says__173 : decode cX10_says_ 173 = .ok (.iand, 1) := by decide +kernel
theorem dX10_says__174 : decode cX10_says_ 174 = .ok (.iconst 1, 1) := by decide +kernel
theorem dX10_says__175 : decode cX10_says_ 175 = .ok (.if_icmp .ne 28, 3) := by decide +kernel
theorem dX10_says__178 : decode cX10_says_ 178 = .ok (.aload_n 0, 1) := by decide +kernel
theorem dX10_says__179 : decode cX10_says_ 179 = .ok (.getfield 18, 3) := by decide +kernel
theorem dX10_says__182 : decode cX10_says_ 182 = .ok (.iload 7, 2) := by decide +kernel
theorem dX10_says__184 : decode cX10_says_ 184 = .ok (.aaload, 1) := by decide +kernel
theorem dX10_says__185 : decode cX10_says_ 185 = .ok (.iconst 2, 1) := by decide +kernel
theorem dX10_says__186 : decode cX10_says_ 186 = .ok (.iaload, 1) := by decide +kernel
theorem dX10_says__187 : decode cX10_says_ 187 = .ok (.ifCond .ne 16, 3) := by decide +kernel
theorem dX10_says__190 : decode cX10_says_ 190 = .ok (.aload_n 0, 1) := by decide +kernel
theorem dX10_says__191 : decode cX10_says_ 191 = .ok (.getfield 18, 3) := by decide +kernel
theorem dX10_says__194 : decode cX10_says_ 194 = .ok (.iload 7, 2) := by decide +kernel
theorem dX10_says__196 : decode cX10_says_ 196 = .ok (.aaload, 1) := by decide +kernel
theorem dX10_says__197 : decode cX10_says_ 197 = .ok (.iconst 1, 1) := by decide +kernel
theorem dX10_says__198 : decode cX10_says_ 198 = .ok (.dup2, 1) := by decide +kernel
theorem dX10_says__199 : decode cX10_says_ 199 = .ok (.iaload, 1) := by decide +kernel
theorem dX10_says__200 : decode cX10_says_ 200 = .ok (.iconst 2, 1) := by decide +kernel
theorem dX10_says__201 : decode cX10_says_ 201 = .ok (.idiv, 1) := by decide +kernel
theorem dX10_says__202 : decode cX10_says_ 202 = .ok (.iastore, 1) := by decide +kernel
theorem dX10_says__203 : decode cX10_says_ 203 = .ok (.iinc 7 1, 3) := by decide +kernel
theorem dX10_says__206 : decode cX10_says_ 206 = .ok (.goto (-54), 3) := by decide +kernel
theorem dX10_says__209 : decode cX10_says_ 209 = .ok (.iconst 0, 1) := by decide +kernel
theorem dX10_says__210 : decode cX10_says_ 210 = .ok (.istore 7, 2) := by decide +kernel
theorem dX10_says__212 : decode cX10_says_ 212 = .ok (.iload 7, 2) := by decide +kernel
theorem dX10_says__214 : decode cX10_says_ 214 = .ok (.aload_n 0, 1) := by decide +kernel
theorem dX10_says__215 : decode cX10_says_ 215 = .ok (.getfield 55, 3) := by decide +kernel
theorem dX10_says__218 : decode cX10_says_ 218 = .ok (.if_icmp .ge 38, 3) := by decide +kernel
theorem dX10_says__221 : decode cX10_says_ 221 = .ok (.aload_n 0, 1) := by decide +kernel
theorem dX10_says__222 : decode cX10_says_ 222 = .ok (.getfield 22, 3) := by decide +kernel
theorem dX10_says__225 : decode cX10_says_ 225 = .ok (.iload 7, 2) := by decide +kernel
theorem dX10_says__227 : decode cX10_says_ 227 = .ok (.aaload, 1) := by decide +kernel
theorem dX10_says__228 : decode cX10_says_ 228 = .ok (.iconst 0, 1) := by decide +kernel
theorem dX10_says__229 : decode cX10_says_ 229 = .ok (.iaload, 1) := by decide +kernel
theorem dX10_says__230 : decode cX10_says_ 230 = .ok (.iload 4, 2) := by decide +kernel
theorem dX10_says__232 : decode cX10_says_ 232 = .ok (.if_icmp .ne 18, 3) := by decide +kernel
theorem dX10_says__235 : decode cX10_says_ 235 = .ok (.aload_n 0, 1) := by decide +kernel
theorem dX10_says__236 : decode cX10_says_ 236 = .ok (.getfield 22, 3) := by decide +kernel
theorem dX10_says__239 : decode cX10_says_ 239 = .ok (.iload 7, 2) := by decide +kernel
theorem dX10_says__241 : decode cX10_says_ 241 = .ok (.aaload, 1) := by decide +kernel
theorem dX10_says__242 : decode cX10_says_ 242 = .ok (.iconst 1, 1) := by decide +kernel
theorem dX10_says__243 : decode cX10_says_ 243 = .ok (.dup2, 1) := by decide +kernel
theorem dX10_says__244 : decode cX10_says_ 244 = .ok (.iaload, 1) := by decide +kernel
theorem dX10_says__245 : decode cX10_says_ 245 = .ok (.iconst 1, 1) := by decide +kernel
theorem dX10_says__246 : decode cX10_says_ 246 = .ok (.iload_n 2, 1) := by decide +kernel
theorem dX10_says__247 : decode cX10_says_ 247 = .ok (.ishl, 1) := by decide +kernel
theorem dX10_says__248 : decode cX10_says_ 248 = .ok (.ior, 1) := by decide +kernel
theorem dX10_says__249 : decode cX10_says_ 249 = .ok (.iastore, 1) := by decide +kernel
theorem dX10_says__250 : decode cX10_says_ 250 = .ok (.iinc 7 1, 3) := by decide +kernel
theorem dX10_says__253 : decode cX10_says_ 253 = .ok (.goto (-41), 3) := by decide +kernel
theorem dX10_says__256 : decode cX10_says_ 256 = .ok (.iconst 1, 1) := by decide +kernel
theorem dX10_says__257 : decode cX10_says_ 257 = .ok (.ireturn, 1) := by decide +kernel
theorem dX10_passes_0 : decode cX10_passes 0 = .ok (.iconst 0, 1) := by decide +kernel
theorem dX10_passes_1 : decode cX10_passes 1 = .ok (.istore_n 2, 1) := by decide +kernel
theorem dX10_passes_2 : decode cX10_passes 2 = .ok (.aload_n 0, 1) := by decide +kernel
theorem dX10_passes_3 : decode cX10_passes 3 = .ok (.getfield 25, 3) := by decide +kernel
theorem dX10_passes_6 : decode cX10_passes 6 = .ok (.astore_n 3, 1) := by decide +kernel
theorem dX10_passes_7 : decode cX10_passes 7 = .ok (.aload_n 3, 1) := by decide +kernel
theorem dX10_passes_8 : decode cX10_passes 8 = .ok (.arraylength, 1) := by decide +kernel
theorem dX10_passes_9 : decode cX10_passes 9 = .ok (.istore 4, 2) := by decide +kernel
theorem dX10_passes_11 : decode cX10_passes 11 = .ok (.iconst 0, 1) := by decide +kernel
theorem dX10_passes_12 : decode cX10_passes 12 = .ok (.istore 5, 2) := by decide +kernel
theorem dX10_passes_14 : decode cX10_passes 14 = .ok (.iload 5, 2) := by decide +kernel
theorem dX10_passes_16 : decode cX10_passes 16 = .ok (.iload 4, 2) := by decide +kernel
theorem dX10_passes_18 : decode cX10_passes 18 = .ok (.if_icmp .ge 150, 3) := by decide +kernel
theorem dX10_passes_21 : decode cX10_passes 21 = .ok (.aload_n 3, 1) := by decide +kernel
theorem dX10_passes_22 : decode cX10_passes 22 = .ok (.iload 5, 2) := by decide +kernel
theorem dX10_passes_24 : decode cX10_passes 24 = .ok (.aaload, 1) := by decide +kernel
theorem dX10_passes_25 : decode cX10_passes 25 = .ok (.astore 6, 2) := by decide +kernel
theorem dX10_passes_27 : decode cX10_passes 27 = .ok (.aload 6, 2) := by decide +kernel
theorem dX10_passes_29 : decode cX10_passes 29 = .ok (.iconst 0, 1) := by decide +kernel
theorem dX10_passes_30 : decode cX10_passes 30 = .ok (.iaload, 1) := by decide +kernel
theorem dX10_passes_31 : decode cX10_passes 31 = .ok (.aload_n 0, 1) := by decide +kernel
theorem dX10_passes_32 : decode cX10_passes 32 = .ok (.getfield 46, 3) := by decide +kernel
theorem dX10_passes_35 : decode cX10_passes 35 = .ok (.if_icmp .eq 6, 3) := by decide +kernel
theorem dX10_passes_38 : decode cX10_passes 38 = .ok (.goto 124, 3) := by decide +kernel
theorem dX10_passes_41 : decode cX10_passes 41 = .ok (.aload 6, 2) := by decide +kernel
theorem dX10_passes_43 : decode cX10_passes 43 = .ok (.iconst 1, 1) := by decide +kernel
theorem dX10_passes_44 : decode cX10_passes 44 = .ok (.iaload, 1) := by decide +kernel
theorem dX10_passes_45 : decode cX10_passes 45 = .ok (.istore 7, 2) := by decide +kernel
theorem dX10_passes_47 : decode cX10_passes 47 = .ok (.aload 6, 2) := by decide +kernel
theorem dX10_passes_49 : decode cX10_passes 49 = .ok (.iconst 2, 1) := by decide +kernel
theorem dX10_passes_50 : decode cX10_passes 50 = .ok (.iaload, 1) := by decide +kernel
theorem dX10_passes_51 : decode cX10_passes 51 = .ok (.ifCond .ne 44, 3) := by decide +kernel
theorem dX10_passes_54 : decode cX10_passes 54 = .ok (.aload_n 0, 1) := by decide +kernel
theorem dX10_passes_55 : decode cX10_passes 55 = .ok (.getfield 22, 3) := by decide +kernel
theorem dX10_passes_58 : decode cX10_passes 58 = .ok (.iload 7, 2) := by decide +kernel
theorem dX10_passes_60 : decode cX10_passes 60 = .ok (.aaload, 1) := by decide +kernel
theorem dX10_passes_61 : decode cX10_passes 61 = .ok (.iconst 0, 1) := by decide +kernel
theorem dX10_passes_62 : decode cX10_passes 62 = .ok (.iaload, 1) := by decide +kernel
theorem dX10_passes_63 : decode cX10_passes 63 = .ok (.aload 6, 2) := by decide +kernel
theorem dX10_passes_65 : decode cX10_passes 65 = .ok (.iconst 3, 1) := by decide +kernel
theorem dX10_passes_66 : decode cX10_passes 66 = .ok (.iaload, 1) := by decide +kernel
theorem dX10_passes_67 : decode cX10_passes 67 = .ok (.if_icmp .eq 28, 3) := by decide +kernel
theorem dX10_passes_70 : decode cX10_passes 70 = .ok (.aload_n 0, 1) := by decide +kernel
theorem dX10_passes_71 : decode cX10_passes 71 = .ok (.getfield 22, 3) := by decide +kernel
theorem dX10_passes_74 : decode cX10_passes 74 = .ok (.iload 7, 2) := by decide +kernel
theorem dX10_passes_76 : decode cX10_passes 76 = .ok (.aaload, 1) := by decide +kernel
theorem dX10_passes_77 : decode cX10_passes 77 = .ok (.iconst 0, 1) := by decide +kernel
theorem dX10_passes_78 : decode cX10_passes 78 = .ok (.aload 6, 2) := by decide +kernel
theorem dX10_passes_80 : decode cX10_passes 80 = .ok (.iconst 3, 1) := by decide +kernel
theorem dX10_passes_81 : decode cX10_passes 81 = .ok (.iaload, 1) := by decide +kernel
theorem dX10_passes_82 : decode cX10_passes 82 = .ok (.iastore, 1) := by decide +kernel
theorem dX10_passes_83 : decode cX10_passes 83 = .ok (.aload_n 0, 1) := by decide +kernel
theorem dX10_passes_84 : decode cX10_passes 84 = .ok (.iconst 3, 1) := by decide +kernel
theorem dX10_passes_85 : decode cX10_passes 85 = .ok (.iload 7, 2) := by decide +kernel
theorem dX10_passes_87 : decode cX10_passes 87 = .ok (.aload 6, 2) := by decide +kernel
theorem dX10_passes_89 : decode cX10_passes 89 = .ok (.iconst 3, 1) := by decide +kernel
theorem dX10_passes_90 : decode cX10_passes 90 = .ok (.iaload, 1) := by decide +kernel
theorem dX10_passes_91 : decode cX10_passes 91 = .ok (.iload_n 1, 1) := by decide +kernel
theorem dX10_passes_92 : decode cX10_passes 92 = .ok (.invokevirtual 92, 3) := by decide +kernel
theorem dX10_passes_95 : decode cX10_passes 95 = .ok (.aload 6, 2) := by decide +kernel
theorem dX10_passes_97 : decode cX10_passes 97 = .ok (.iconst 2, 1) := by decide +kernel
theorem dX10_passes_98 : decode cX10_passes 98 = .ok (.iaload, 1) := by decide +kernel
theorem dX10_passes_99 : decode cX10_passes 99 = .ok (.iconst 1, 1) := by decide +kernel
theorem dX10_passes_100 : decode cX10_passes 100 = .ok (.if_icmp .ne 28, 3) := by decide +kernel
theorem dX10_passes_103 : decode cX10_passes 103 = .ok (.aload_n 0, 1) := by decide +kernel
theorem dX10_passes_104 : decode cX10_passes 104 = .ok (.iload 7, 2) := by decide +kernel
theorem dX10_passes_106 : decode cX10_passes 106 = .ok (.aload 6, 2) := by decide +kernel
theorem dX10_passes_108 : decode cX10_passes 108 = .ok (.iconst 3, 1) := by decide +kernel
theorem dX10_passes_109 : decode cX10_passes 109 = .ok (.iaload, 1) := by decide +kernel
theorem dX10_passes_110 : decode cX10_passes 110 = .ok (.invokevirtual 96, 3) := by decide +kernel
theorem dX10_passes_113 : decode cX10_passes 113 = .ok (.ifCond .eq 15, 3) := by decide +kernel
theorem dX10_passes_116 : decode cX10_passes 116 = .ok (.aload_n 0, 1) := by decide +kernel
theorem dX10_passes_117 : decode cX10_passes 117 = .ok (.iload 7, 2) := by decide +kernel
theorem dX10_passes_119 : decode cX10_passes 119 = .ok (.aload 6, 2) := by decide +kernel
theorem dX10_passes_121 : decode cX10_passes 121 = .ok (.iconst 3, 1) := by decide +kernel
theorem dX10_passes_122 : decode cX10_passes 122 = .ok (.iaload, 1) := by decide +kernel
theorem dX10_passes_123 : decode cX10_passes 123 = .ok (.iload_n 1, 1) := by decide +kernel
theorem dX10_passes_124 : decode cX10_passes 124 = .ok (.invokevirtual 100, 3) := by decide +kernel
theorem dX10_passes_127 : decode cX10_passes 127 = .ok (.pop, 1) := by decide +kernel
theorem dX10_passes_128 : decode cX10_passes 128 = .ok (.aload 6, 2) := by decide +kernel
theorem dX10_passes_130 : decode cX10_passes 130 = .ok (.iconst 2, 1) := by decide +kernel
theorem dX10_passes_131 : decode cX10_passes 131 = .ok (.iaload, 1) := by decide +kernel
theorem dX10_passes_132 : decode cX10_passes 132 = .ok (.iconst 2, 1) := by decide +kernel
theorem dX10_passes_133 : decode cX10_passes 133 = .ok (.if_icmp .ne 29, 3) := by decide +kernel
theorem dX10_passes_136 : decode cX10_passes 136 = .ok (.aload_n 0, 1) := by decide +kernel
theorem dX10_passes_137 : decode cX10_passes 137 = .ok (.getfield 22, 3) := by decide +kernel
theorem dX10_passes_140 : decode cX10_passes 140 = .ok (.iload 7, 2) := by decide +kernel
theorem dX10_passes_142 : decode cX10_passes 142 = .ok (.aaload, 1) := by decide +kernel
theorem dX10_passes_143 : decode cX10_passes 143 = .ok (.iconst 2, 1) := by decide +kernel
theorem dX10_passes_144 : decode cX10_passes 144 = .ok (.bipush 99, 2) := by decide +kernel
theorem dX10_passes_146 : decode cX10_passes 146 = .ok (.aload_n 0, 1) := by decide +kernel
theorem dX10_passes_147 : decode cX10_passes 147 = .ok (.getfield 22, 3) := by decide +kernel
theorem dX10_passes_150 : decode cX10_passes 150 = .ok (.iload 7, 2) := by decide +kernel
theorem dX10_passes_152 : decode cX10_passes 152 = .ok (.aaload, 1) := by decide +kernel
theorem dX10_passes_153 : decode cX10_passes 153 = .ok (.iconst 2, 1) := by decide +kernel
theorem dX10_passes_154 : decode cX10_passes 154 = .ok (.iaload, 1) := by decide +kernel
theorem dX10_passes_155 : decode cX10_passes 155 = .ok (.bipush 20, 2) := by decide +kernel
theorem dX10_passes_157 : decode cX10_passes 157 = .ok (.iadd, 1) := by decide +kernel
theorem dX10_passes_158 : decode cX10_passes 158 = .ok (.invokestatic 103, 3) := by decide +kernel
theorem dX10_passes_161 : decode cX10_passes 161 = .ok (.iastore, 1) := by decide +kernel
theorem dX10_passes_162 : decode cX10_passes 162 = .ok (.iinc 5 1, 3) := by decide +kernel
theorem dX10_passes_165 : decode cX10_passes 165 = .ok (.goto (-151), 3) := by decide +kernel
theorem dX10_passes_168 : decode cX10_passes 168 = .ok (.iconst 0, 1) := by decide +kernel
theorem dX10_passes_169 : decode cX10_passes 169 = .ok (.istore_n 3, 1) := by decide +kernel
theorem dX10_passes_170 : decode cX10_passes 170 = .ok (.iload_n 3, 1) := by decide +kernel
theorem dX10_passes_171 : decode cX10_passes 171 = .ok (.aload_n 0, 1) := by decide +kernel
theorem dX10_passes_172 : decode cX10_passes 172 = .ok (.getfield 55, 3) := by decide +kernel
theorem dX10_passes_175 : decode cX10_passes 175 = .ok (.if_icmp .ge 142, 3) := by decide +kernel
theorem dX10_passes_178 : decode cX10_passes 178 = .ok (.iload_n 1, 1) := by decide +kernel
theorem dX10_passes_179 : decode cX10_passes 179 = .ok (.ifCond .eq 138, 3) := by decide +kernel
theorem dX10_passes_182 : decode cX10_passes 182 = .ok (.aload_n 0, 1) := by decide +kernel
theorem dX10_passes_183 : decode cX10_passes 183 = .ok (.getfield 49, 3) := by decide +kernel
theorem dX10_passes_186 : decode cX10_passes 186 = .ok (.ifCond .le 131, 3) := by decide +kernel
theorem dX10_passes_189 : decode cX10_passes 189 = .ok (.aload_n 0, 1) := by decide +kernel
theorem dX10_passes_190 : decode cX10_passes 190 = .ok (.sipush 1000, 3) := by decide +kernel
theorem dX10_passes_193 : decode cX10_passes 193 = .ok (.invokevirtual 109, 3) := by decide +kernel
theorem dX10_passes_196 : decode cX10_passes 196 = .ok (.aload_n 0, 1) := by decide +kernel
theorem dX10_passes_197 : decode cX10_passes 197 = .ok (.getfield 49, 3) := by decide +kernel
theorem dX10_passes_200 : decode cX10_passes 200 = .ok (.if_icmp .lt 6, 3) := by decide +kernel
theorem dX10_passes_203 : decode cX10_passes 203 = .ok (.goto 108, 3) := by decide +kernel
theorem dX10_passes_206 : decode cX10_passes 206 = .ok (.iconst (-1), 1) := by decide +kernel
theorem dX10_passes_207 : decode cX10_passes 207 = .ok (.istore 4, 2) := by decide +kernel
theorem dX10_passes_209 : decode cX10_passes 209 = .ok (.aload_n 0, 1) := by decide +kernel
theorem dX10_passes_210 : decode cX10_passes 210 = .ok (.getfield 52, 3) := by decide +kernel
theorem dX10_passes_213 : decode cX10_passes 213 = .ok (.iconst 1, 1) := by decide +kernel
theorem dX10_passes_214 : decode cX10_passes 214 = .ok (.isub, 1) := by decide +kernel
theorem dX10_passes_215 : decode cX10_passes 215 = .ok (.istore 5, 2) := by decide +kernel
theorem dX10_passes_217 : decode cX10_passes 217 = .ok (.iload 5, 2) := by decide +kernel
theorem dX10_passes_219 : decode cX10_passes 219 = .ok (.ifCond .lt 68, 3) := by decide +kernel
theorem dX10_passes_222 : decode cX10_passes 222 = .ok (.aload_n 0, 1) := by decide +kernel
theorem dX10_passes_223 : decode cX10_passes 223 = .ok (.getfield 22, 3) := by decide +kernel
theorem dX10_passes_226 : decode cX10_passes 226 = .ok (.iload_n 3, 1) := by decide +kernel
theorem dX10_passes_227 : decode cX10_passes 227 = .ok (.aaload, 1) := by decide +kernel
theorem dX10_passes_228 : decode cX10_passes 228 = .ok (.iconst 1, 1) := by decide +kernel
theorem dX10_passes_229 : decode cX10_passes 229 = .ok (.iaload, 1) := by decide +kernel
theorem dX10_passes_230 : decode cX10_passes 230 = .ok (.iload 5, 2) := by decide +kernel
theorem dX10_passes_232 : decode cX10_passes 232 = .ok (.ishr, 1) := by decide +kernel
theorem dX10_passes_233 : decode cX10_passes 233 = .ok (.iconst 1, 1) := by decide +kernel
theorem dX10_passes_234 : decode cX10_passes 234 = .ok (.iand, 1) := by decide +kernel
theorem dX10_passes_235 : decode cX10_passes 235 = .ok (.iconst 1, 1) := by decide +kernel
theorem dX10_passes_236 : decode cX10_passes 236 = .ok (.if_icmp .ne 45, 3) := by decide +kernel
theorem dX10_passes_239 : decode cX10_passes 239 = .ok (.aload_n 0, 1) := by decide +kernel
theorem dX10_passes_240 : decode cX10_passes 240 = .ok (.getfield 18, 3) := by decide +kernel
theorem dX10_passes_243 : decode cX10_passes 243 = .ok (.iload 5, 2) := by decide +kernel
theorem dX10_passes_245 : decode cX10_passes 245 = .ok (.aaload, 1) := by decide +kernel
theorem dX10_passes_246 : decode cX10_passes 246 = .ok (.iconst 2, 1) := by decide +kernel
theorem dX10_passes_247 : decode cX10_passes 247 = .ok (.iaload, 1) := by decide +kernel
theorem dX10_passes_248 : decode cX10_passes 248 = .ok (.ifCond .ne 33, 3) := by decide +kernel
theorem dX10_passes_251 : decode cX10_passes 251 = .ok (.iload 4, 2) := by decide +kernel
theorem dX10_passes_253 : decode cX10_passes 253 = .ok (.ifCond .lt 24, 3) := by decide +kernel
theorem dX10_passes_256 : decode cX10_passes 256 = .ok (.aload_n 0, 1) := by decide +kernel
theorem dX10_passes_257 : decode cX10_passes 257 = .ok (.getfield 18, 3) := by decide +kernel
theorem dX10_passes_260 : decode cX10_passes 260 = .ok (.iload 5, 2) := by decide +kernel
theorem dX10_passes_262 : decode cX10_passes 262 = .ok (.aaload, 1) := by decide +kernel
theorem dX10_passes_263 : decode cX10_passes 263 = .ok (.iconst 1, 1) := by decide +kernel
theorem dX10_passes_264 : decode cX10_passes 264 = .ok (.iaload, 1) := by decide +kernel
theorem dX10_passes_265 : decode cX10_passes 265 = .ok (.aload_n 0, 1) := by decide +kernel
theorem dX10_passes_266 : decode cX10_passes 266 = .ok (.getfield 18, 3) := by decide +kernel
theorem dX10_passes_269 : decode cX10_passes 269 = .ok (.iload 4, 2) := by decide +kernel
theorem dX10_passes_271 : decode cX10_passes 271 = .ok (.aaload, 1) := by decide +kernel
theorem dX10_passes_272 : decode cX10_passes 272 = .ok (.iconst 1, 1) := by decide +kernel
theorem dX10_passes_273 : decode cX10_passes 273 = .ok (.iaload, 1) := by decide +kernel
theorem dX10_passes_274 : decode cX10_passes 274 = .ok (.if_icmp .lt 7, 3) := by decide +kernel
theorem dX10_passes_277 : decode cX10_passes 277 = .ok (.iload 5, 2) := by decide +kernel
theorem dX10_passes_279 : decode cX10_passes 279 = .ok (.istore 4, 2) := by decide +kernel
theorem dX10_passes_281 : decode cX10_passes 281 = .ok (.iinc 5 (-1), 3) := by decide +kernel
theorem dX10_passes_284 : decode cX10_passes 284 = .ok (.goto (-67), 3) := by decide +kernel
theorem dX10_passes_287 : decode cX10_passes 287 = .ok (.iload 4, 2) := by decide +kernel
theorem dX10_passes_289 : decode cX10_passes 289 = .ok (.ifCond .lt 22, 3) := by decide +kernel
theorem dX10_passes_292 : decode cX10_passes 292 = .ok (.aload_n 0, 1) := by decide +kernel
theorem dX10_passes_293 : decode cX10_passes 293 = .ok (.iload_n 3, 1) := by decide +kernel
theorem dX10_passes_294 : decode cX10_passes 294 = .ok (.iload 4, 2) := by decide +kernel
theorem dX10_passes_296 : decode cX10_passes 296 = .ok (.invokevirtual 96, 3) := by decide +kernel
theorem dX10_passes_299 : decode cX10_passes 299 = .ok (.ifCond .eq 12, 3) := by decide +kernel
theorem dX10_passes_302 : decode cX10_passes 302 = .ok (.aload_n 0, 1) := by decide +kernel
theorem dX10_passes_303 : decode cX10_passes 303 = .ok (.iload_n 3, 1) := by decide +kernel
theorem dX10_passes_304 : decode cX10_passes 304 = .ok (.iload 4, 2) := by decide +kernel
theorem dX10_passes_306 : decode cX10_passes 306 = .ok (.iconst 1, 1) := by decide +kernel
theorem dX10_passes_307 : decode cX10_passes 307 = .ok (.invokevirtual 100, 3) := by decide +kernel
