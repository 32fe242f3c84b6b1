theorem dX8_init_153 : decode cX8_init 153 = .ok (.iinc 1 1, 3) := by decide +kernel
theorem dX8_init_156 : decode cX8_init 156 = .ok (.goto (-32), 3) := by decide +kernel
theorem dX8_init_159 : decode cX8_init 159 = .ok (.return_, 1) := by decide +kernel
theorem dX8_become_0 : decode cX8_become 0 = .ok (.aload_n 0, 1) := by decide +kernel
theorem dX8_become_1 : decode cX8_become 1 = .ok (.aload_n 1, 1) := by decide +kernel
theorem dX8_become_2 : decode cX8_become 2 = .ok (.getfield 63, 3) := by decide +kernel
theorem dX8_become_5 : decode cX8_become 5 = .ok (.putfield 63, 3) := by decide +kernel
theorem dX8_become_8 : decode cX8_become 8 = .ok (.aload_n 0, 1) := by decide +kernel
theorem dX8_become_9 : decode cX8_become 9 = .ok (.aload_n 1, 1) := by decide +kernel
theorem dX8_become_10 : decode cX8_become 10 = .ok (.getfield 67, 3) := by decide +kernel
theorem dX8_become_13 : decode cX8_become 13 = .ok (.putfield 67, 3) := by decide +kernel
theorem dX8_become_16 : decode cX8_become 16 = .ok (.aload_n 0, 1) := by decide +kernel
theorem dX8_become_17 : decode cX8_become 17 = .ok (.aload_n 1, 1) := by decide +kernel
theorem dX8_become_18 : decode cX8_become 18 = .ok (.getfield 70, 3) := by decide +kernel
theorem dX8_become_21 : decode cX8_become 21 = .ok (.putfield 70, 3) := by decide +kernel
theorem dX8_become_24 : decode cX8_become 24 = .ok (.aload_n 1, 1) := by decide +kernel
theorem dX8_become_25 : decode cX8_become 25 = .ok (.getfield 9, 3) := by decide +kernel
theorem dX8_become_28 : decode cX8_become 28 = .ok (.iconst 0, 1) := by decide +kernel
theorem dX8_become_29 : decode cX8_become 29 = .ok (.aload_n 0, 1) := by decide +kernel
theorem dX8_become_30 : decode cX8_become 30 = .ok (.getfield 9, 3) := by decide +kernel
theorem dX8_become_33 : decode cX8_become 33 = .ok (.iconst 0, 1) := by decide +kernel
theorem dX8_become_34 : decode cX8_become 34 = .ok (.bipush 14, 2) := by decide +kernel
theorem dX8_become_36 : decode cX8_become 36 = .ok (.invokestatic 73, 3) := by decide +kernel
theorem dX8_become_39 : decode cX8_become 39 = .ok (.aload_n 1, 1) := by decide +kernel
theorem dX8_become_40 : decode cX8_become 40 = .ok (.getfield 15, 3) := by decide +kernel
theorem dX8_become_43 : decode cX8_become 43 = .ok (.iconst 0, 1) := by decide +kernel
theorem dX8_become_44 : decode cX8_become 44 = .ok (.aload_n 0, 1) := by decide +kernel
theorem dX8_become_45 : decode cX8_become 45 = .ok (.getfield 15, 3) := by decide +kernel
theorem dX8_become_48 : decode cX8_become 48 = .ok (.iconst 0, 1) := by decide +kernel
theorem dX8_become_49 : decode cX8_become 49 = .ok (.bipush 14, 2) := by decide +kernel
theorem dX8_become_51 : decode cX8_become 51 = .ok (.invokestatic 73, 3) := by decide +kernel
theorem dX8_become_54 : decode cX8_become 54 = .ok (.aload_n 1, 1) := by decide +kernel
theorem dX8_become_55 : decode cX8_become 55 = .ok (.getfield 18, 3) := by decide +kernel
theorem dX8_become_58 : decode cX8_become 58 = .ok (.iconst 0, 1) := by decide +kernel
theorem dX8_become_59 : decode cX8_become 59 = .ok (.aload_n 0, 1) := by decide +kernel
theorem dX8_become_60 : decode cX8_become 60 = .ok (.getfield 18, 3) := by decide +kernel
theorem dX8_become_63 : decode cX8_become 63 = .ok (.iconst 0, 1) := by decide +kernel
theorem dX8_become_64 : decode cX8_become 64 = .ok (.bipush 100, 2) := by decide +kernel
theorem dX8_become_66 : decode cX8_become 66 = .ok (.invokestatic 73, 3) := by decide +kernel
theorem dX8_become_69 : decode cX8_become 69 = .ok (.aload_n 0, 1) := by decide +kernel
theorem dX8_become_70 : decode cX8_become 70 = .ok (.getfield 24, 3) := by decide +kernel
theorem dX8_become_73 : decode cX8_become 73 = .ok (.aload_n 1, 1) := by decide +kernel
theorem dX8_become_74 : decode cX8_become 74 = .ok (.getfield 24, 3) := by decide +kernel
theorem dX8_become_77 : decode cX8_become 77 = .ok (.invokevirtual 79, 3) := by decide +kernel
theorem dX8_become_80 : decode cX8_become 80 = .ok (.aload_n 0, 1) := by decide +kernel
theorem dX8_become_81 : decode cX8_become 81 = .ok (.getfield 33, 3) := by decide +kernel
theorem dX8_become_84 : decode cX8_become 84 = .ok (.aload_n 1, 1) := by decide +kernel
theorem dX8_become_85 : decode cX8_become 85 = .ok (.getfield 33, 3) := by decide +kernel
theorem dX8_become_88 : decode cX8_become 88 = .ok (.invokevirtual 83, 3) := by decide +kernel
theorem dX8_become_91 : decode cX8_become 91 = .ok (.aload_n 0, 1) := by decide +kernel
theorem dX8_become_92 : decode cX8_become 92 = .ok (.getfield 37, 3) := by decide +kernel
theorem dX8_become_95 : decode cX8_become 95 = .ok (.aload_n 1, 1) := by decide +kernel
theorem dX8_become_96 : decode cX8_become 96 = .ok (.getfield 37, 3) := by decide +kernel
theorem dX8_become_99 : decode cX8_become 99 = .ok (.invokevirtual 83, 3) := by decide +kernel
theorem dX8_become_102 : decode cX8_become 102 = .ok (.aload_n 0, 1) := by decide +kernel
theorem dX8_become_103 : decode cX8_become 103 = .ok (.getfield 40, 3) := by decide +kernel
theorem dX8_become_106 : decode cX8_become 106 = .ok (.aload_n 1, 1) := by decide +kernel
theorem dX8_become_107 : decode cX8_become 107 = .ok (.getfield 40, 3) := by decide +kernel
theorem dX8_become_110 : decode cX8_become 110 = .ok (.invokevirtual 83, 3) := by decide +kernel
theorem dX8_become_113 : decode cX8_become 113 = .ok (.aload_n 0, 1) := by decide +kernel
theorem dX8_become_114 : decode cX8_become 114 = .ok (.getfield 43, 3) := by decide +kernel
theorem dX8_become_117 : decode cX8_become 117 = .ok (.aload_n 1, 1) := by decide +kernel
theorem dX8_become_118 : decode cX8_become 118 = .ok (.getfield 43, 3) := by decide +kernel
theorem dX8_become_121 : decode cX8_become 121 = .ok (.invokevirtual 83, 3) := by decide +kernel
theorem dX8_become_124 : decode cX8_become 124 = .ok (.aload_n 0, 1) := by decide +kernel
theorem dX8_become_125 : decode cX8_become 125 = .ok (.getfield 49, 3) := by decide +kernel
theorem dX8_become_128 : decode cX8_become 128 = .ok (.aload_n 1, 1) := by decide +kernel
theorem dX8_become_129 : decode cX8_become 129 = .ok (.getfield 49, 3) := by decide +kernel
theorem dX8_become_132 : decode cX8_become 132 = .ok (.invokevirtual 86, 3) := by decide +kernel
theorem dX8_become_135 : decode cX8_become 135 = .ok (.aload_n 0, 1) := by decide +kernel
theorem dX8_become_136 : decode cX8_become 136 = .ok (.getfield 56, 3) := by decide +kernel
theorem dX8_become_139 : decode cX8_become 139 = .ok (.aload_n 1, 1) := by decide +kernel
theorem dX8_become_140 : decode cX8_become 140 = .ok (.getfield 56, 3) := by decide +kernel
theorem dX8_become_143 : decode cX8_become 143 = .ok (.invokevirtual 89, 3) := by decide +kernel
theorem dX8_become_146 : decode cX8_become 146 = .ok (.return_, 1) := by decide +kernel
theorem dX8_isIn_0 : decode cX8_isIn 0 = .ok (.iload_n 1, 1) := by decide +kernel
theorem dX8_isIn_1 : decode cX8_isIn 1 = .ok (.ifCond .lt 21, 3) := by decide +kernel
theorem dX8_isIn_4 : decode cX8_isIn 4 = .ok (.iload_n 1, 1) := by decide +kernel
theorem dX8_isIn_5 : decode cX8_isIn 5 = .ok (.bipush 32, 2) := by decide +kernel
theorem dX8_isIn_7 : decode cX8_isIn 7 = .ok (.if_icmp .ge 15, 3) := by decide +kernel
theorem dX8_isIn_10 : decode cX8_isIn 10 = .ok (.iload_n 0, 1) := by decide +kernel
theorem dX8_isIn_11 : decode cX8_isIn 11 = .ok (.iload_n 1, 1) := by decide +kernel
theorem dX8_isIn_12 : decode cX8_isIn 12 = .ok (.ishr, 1) := by decide +kernel
theorem dX8_isIn_13 : decode cX8_isIn 13 = .ok (.iconst 1, 1) := by decide +kernel
theorem dX8_isIn_14 : decode cX8_isIn 14 = .ok (.iand, 1) := by decide +kernel
theorem dX8_isIn_15 : decode cX8_isIn 15 = .ok (.ifCond .eq 7, 3) := by decide +kernel
theorem dX8_isIn_18 : decode cX8_isIn 18 = .ok (.iconst 1, 1) := by decide +kernel
theorem dX8_isIn_19 : decode cX8_isIn 19 = .ok (.goto 4, 3) := by decide +kernel
theorem dX8_isIn_22 : decode cX8_isIn 22 = .ok (.iconst 0, 1) := by decide +kernel
theorem dX8_isIn_23 : decode cX8_isIn 23 = .ok (.ireturn, 1) := by decide +kernel
theorem dX8_isPlace_0 : decode cX8_isPlace 0 = .ok (.iload_n 0, 1) := by decide +kernel
theorem dX8_isPlace_1 : decode cX8_isPlace 1 = .ok (.ifCond .lt 13, 3) := by decide +kernel
theorem dX8_isPlace_4 : decode cX8_isPlace 4 = .ok (.iload_n 0, 1) := by decide +kernel
theorem dX8_isPlace_5 : decode cX8_isPlace 5 = .ok (.bipush 10, 2) := by decide +kernel
theorem dX8_isPlace_7 : decode cX8_isPlace 7 = .ok (.if_icmp .ge 7, 3) := by decide +kernel
theorem dX8_isPlace_10 : decode cX8_isPlace 10 = .ok (.iconst 1, 1) := by decide +kernel
theorem dX8_isPlace_11 : decode cX8_isPlace 11 = .ok (.goto 4, 3) := by decide +kernel
theorem dX8_isPlace_14 : decode cX8_isPlace 14 = .ok (.iconst 0, 1) := by decide +kernel
theorem dX8_isPlace_15 : decode cX8_isPlace 15 = .ok (.ireturn, 1) := by decide +kernel
theorem dX8_hasWord_0 : decode cX8_hasWord 0 = .ok (.iload_n 1, 1) := by decide +kernel
theorem dX8_hasWord_1 : decode cX8_hasWord 1 = .ok (.ifCond .lt 15, 3) := by decide +kernel
theorem dX8_hasWord_4 : decode cX8_hasWord 4 = .ok (.iload_n 1, 1) := by decide +kernel
theorem dX8_hasWord_5 : decode cX8_hasWord 5 = .ok (.aload_n 0, 1) := by decide +kernel
theorem dX8_hasWord_6 : decode cX8_hasWord 6 = .ok (.getfield 63, 3) := by decide +kernel
theorem dX8_hasWord_9 : decode cX8_hasWord 9 = .ok (.if_icmp .ge 7, 3) := by decide +kernel
theorem dX8_hasWord_12 : decode cX8_hasWord 12 = .ok (.iconst 1, 1) := by decide +kernel
theorem dX8_hasWord_13 : decode cX8_hasWord 13 = .ok (.goto 4, 3) := by decide +kernel
theorem dX8_hasWord_16 : decode cX8_hasWord 16 = .ok (.iconst 0, 1) := by decide +kernel
theorem dX8_hasWord_17 : decode cX8_hasWord 17 = .ok (.ireturn, 1) := by decide +kernel
theorem dX8_hasPerson_0 : decode cX8_hasPerson 0 = .ok (.iload_n 1, 1) := by decide +kernel
theorem dX8_hasPerson_1 : decode cX8_hasPerson 1 = .ok (.ifCond .lt 15, 3) := by decide +kernel
theorem dX8_hasPerson_4 : decode cX8_hasPerson 4 = .ok (.iload_n 1, 1) := by decide +kernel
theorem dX8_hasPerson_5 : decode cX8_hasPerson 5 = .ok (.aload_n 0, 1) := by decide +kernel
theorem dX8_hasPerson_6 : decode cX8_hasPerson 6 = .ok (.getfield 67, 3) := by decide +kernel
theorem dX8_hasPerson_9 : decode cX8_hasPerson 9 = .ok (.if_icmp .ge 7, 3) := by decide +kernel
theorem dX8_hasPerson_12 : decode cX8_hasPerson 12 = .ok (.iconst 1, 1) := by decide +kernel
theorem dX8_hasPerson_13 : decode cX8_hasPerson 13 = .ok (.goto 4, 3) := by decide +kernel
theorem dX8_hasPerson_16 : decode cX8_hasPerson 16 = .ok (.iconst 0, 1) := by decide +kernel
theorem dX8_hasPerson_17 : decode cX8_hasPerson 17 = .ok (.ireturn, 1) := by decide +kernel
theorem dX8_hasLapsed_0 : decode cX8_hasLapsed 0 = .ok (.aload_n 0, 1) := by decide +kernel
theorem dX8_hasLapsed_1 : decode cX8_hasLapsed 1 = .ok (.getfield 24, 3) := by decide +kernel
theorem dX8_hasLapsed_4 : decode cX8_hasLapsed 4 = .ok (.getfield 92, 3) := by decide +kernel
theorem dX8_hasLapsed_7 : decode cX8_hasLapsed 7 = .ok (.iload_n 1, 1) := by decide +kernel
theorem dX8_hasLapsed_8 : decode cX8_hasLapsed 8 = .ok (.invokestatic 95, 3) := by decide +kernel
theorem dX8_hasLapsed_11 : decode cX8_hasLapsed 11 = .ok (.ireturn, 1) := by decide +kernel
theorem dX8_hasInTongue_0 : decode cX8_hasInTongue 0 = .ok (.aload_n 0, 1) := by decide +kernel
theorem dX8_hasInTongue_1 : decode cX8_hasInTongue 1 = .ok (.iload_n 1, 1) := by decide +kernel
theorem dX8_hasInTongue_2 : decode cX8_hasInTongue 2 = .ok (.invokevirtual 99, 3) := by decide +kernel
theorem dX8_hasInTongue_5 : decode cX8_hasInTongue 5 = .ok (.ifCond .eq 23, 3) := by decide +kernel
theorem dX8_hasInTongue_8 : decode cX8_hasInTongue 8 = .ok (.aload_n 0, 1) := by decide +kernel
theorem dX8_hasInTongue_9 : decode cX8_hasInTongue 9 = .ok (.getfield 24, 3) := by decide +kernel
theorem dX8_hasInTongue_12 : decode cX8_hasInTongue 12 = .ok (.getfield 103, 3) := by decide +kernel
theorem dX8_hasInTongue_15 : decode cX8_hasInTongue 15 = .ok (.iload_n 1, 1) := by decide +kernel
theorem dX8_hasInTongue_16 : decode cX8_hasInTongue 16 = .ok (.iaload, 1) := by decide +kernel
theorem dX8_hasInTongue_17 : decode cX8_hasInTongue 17 = .ok (.iload_n 2, 1) := by decide +kernel
theorem dX8_hasInTongue_18 : decode cX8_hasInTongue 18 = .ok (.invokestatic 95, 3) := by decide +kernel
theorem dX8_hasInTongue_21 : decode cX8_hasInTongue 21 = .ok (.ifCond .eq 7, 3) := by decide +kernel
theorem dX8_hasInTongue_24 : decode cX8_hasInTongue 24 = .ok (.iconst 1, 1) := by decide +kernel
theorem dX8_hasInTongue_25 : decode cX8_hasInTongue 25 = .ok (.goto 4, 3) := by decide +kernel
theorem dX8_hasInTongue_28 : decode cX8_hasInTongue 28 = .ok (.iconst 0, 1) := by decide +kernel
theorem dX8_hasInTongue_29 : decode cX8_hasInTongue 29 = .ok (.ireturn, 1) := by decide +kernel
theorem dX8_living_0 : decode cX8_living 0 = .ok (.iconst 1, 1) := by decide +kernel
theorem dX8_living_1 : decode cX8_living 1 = .ok (.aload_n 0, 1) := by decide +kernel
theorem dX8_living_2 : decode cX8_living 2 = .ok (.getfield 63, 3) := by decide +kernel
theorem dX8_living_5 : decode cX8_living 5 = .ok (.ishl, 1) := by decide +kernel
theorem dX8_living_6 : decode cX8_living 6 = .ok (.iconst 1, 1) := by decide +kernel
theorem dX8_living_7 : decode cX8_living 7 = .ok (.isub, 1) := by decide +kernel
theorem dX8_living_8 : decode cX8_living 8 = .ok (.aload_n 0, 1) := by decide +kernel
theorem dX8_living_9 : decode cX8_living 9 = .ok (.getfield 24, 3) := by decide +kernel
theorem dX8_living_12 : decode cX8_living 12 = .ok (.getfield 92, 3) := by decide +kernel
theorem dX8_living_15 : decode cX8_living 15 = .ok (.iconst (-1), 1) := by decide +kernel
theorem dX8_living_16 : decode cX8_living 16 = .ok (.ixor, 1) := by decide +kernel
theorem dX8_living_17 : decode cX8_living 17 = .ok (.iand, 1) := by decide +kernel
theorem dX8_living_18 : decode cX8_living 18 = .ok (.ireturn, 1) := by decide +kernel
theorem dX8_sayable_0 : decode cX8_sayable 0 = .ok (.aload_n 0, 1) := by decide +kernel
theorem dX8_sayable_1 : decode cX8_sayable 1 = .ok (.getfield 49, 3) := by decide +kernel
theorem dX8_sayable_4 : decode cX8_sayable 4 = .ok (.aload_n 0, 1) := by decide +kernel
theorem dX8_sayable_5 : decode cX8_sayable 5 = .ok (.invokevirtual 106, 3) := by decide +kernel
theorem dX8_sayable_8 : decode cX8_sayable 8 = .ok (.invokevirtual 110, 3) := by decide +kernel
theorem dX8_sayable_11 : decode cX8_sayable 11 = .ok (.ireturn, 1) := by decide +kernel
theorem dX8_addWord_0 : decode cX8_addWord 0 = .ok (.aload_n 0, 1) := by decide +kernel
theorem dX8_addWord_1 : decode cX8_addWord 1 = .ok (.getfield 63, 3) := by decide +kernel
theorem dX8_addWord_4 : decode cX8_addWord 4 = .ok (.bipush 14, 2) := by decide +kernel
theorem dX8_addWord_6 : decode cX8_addWord 6 = .ok (.if_icmp .lt 5, 3) := by decide +kernel
theorem dX8_addWord_9 : decode cX8_addWord 9 = .ok (.iconst (-1), 1) := by decide +kernel
theorem dX8_addWord_10 : decode cX8_addWord 10 = .ok (.ireturn, 1) := by decide +kernel
theorem dX8_addWord_11 : decode cX8_addWord 11 = .ok (.aload_n 0, 1) := by decide +kernel
theorem dX8_addWord_12 : decode cX8_addWord 12 = .ok (.getfield 9, 3) := by decide +kernel
theorem dX8_addWord_15 : decode cX8_addWord 15 = .ok (.aload_n 0, 1) := by decide +kernel
theorem dX8_addWord_16 : decode cX8_addWord 16 = .ok (.getfield 63, 3) := by decide +kernel
theorem dX8_addWord_19 : decode cX8_addWord 19 = .ok (.iload_n 1, 1) := by decide +kernel
theorem dX8_addWord_20 : decode cX8_addWord 20 = .ok (.iastore, 1) := by decide +kernel
theorem dX8_addWord_21 : decode cX8_addWord 21 = .ok (.aload_n 0, 1) := by decide +kernel
theorem dX8_addWord_22 : decode cX8_addWord 22 = .ok (.getfield 15, 3) := by decide +kernel
theorem dX8_addWord_25 : decode cX8_addWord 25 = .ok (.aload_n 0, 1) := by decide +kernel
theorem dX8_addWord_26 : decode cX8_addWord 26 = .ok (.getfield 63, 3) := by decide +kernel
theorem dX8_addWord_29 : decode cX8_addWord 29 = .ok (.iconst 0, 1) := by decide +kernel
theorem dX8_addWord_30 : decode cX8_addWord 30 = .ok (.iastore, 1) := by decide +kernel
theorem dX8_addWord_31 : decode cX8_addWord 31 = .ok (.aload_n 0, 1) := by decide +kernel
theorem dX8_addWord_32 : decode cX8_addWord 32 = .ok (.getfield 24, 3) := by decide +kernel
theorem dX8_addWord_35 : decode cX8_addWord 35 = .ok (.getfield 114, 3) := by decide +kernel
theorem dX8_addWord_38 : decode cX8_addWord 38 = .ok (.aload_n 0, 1) := by decide +kernel
theorem dX8_addWord_39 : decode cX8_addWord 39 = .ok (.getfield 63, 3) := by decide +kernel
theorem dX8_addWord_42 : decode cX8_addWord 42 = .ok (.iconst 0, 1) := by decide +kernel
theorem dX8_addWord_43 : decode cX8_addWord 43 = .ok (.iastore, 1) := by decide +kernel
theorem dX8_addWord_44 : decode cX8_addWord 44 = .ok (.aload_n 0, 1) := by decide +kernel
theorem dX8_addWord_45 : decode cX8_addWord 45 = .ok (.getfield 24, 3) := by decide +kernel
theorem dX8_addWord_48 : decode cX8_addWord 48 = .ok (.getfield 117, 3) := by decide +kernel
theorem dX8_addWord_51 : decode cX8_addWord 51 = .ok (.aload_n 0, 1) := by decide +kernel
theorem dX8_addWord_52 : decode cX8_addWord 52 = .ok (.getfield 63, 3) := by decide +kernel
theorem dX8_addWord_55 : decode cX8_addWord 55 = .ok (.iconst 0, 1) := by decide +kernel
theorem dX8_addWord_56 : decode cX8_addWord 56 = .ok (.iastore, 1) := by decide +kernel
theorem dX8_addWord_57 : decode cX8_addWord 57 = .ok (.aload_n 0, 1) := by decide +kernel
theorem dX8_addWord_58 : decode cX8_addWord 58 = .ok (.dup, 1) := by decide +kernel
theorem dX8_addWord_59 : decode cX8_addWord 59 = .ok (.getfield 63, 3) := by decide +kernel
theorem dX8_addWord_62 : decode cX8_addWord 62 = .ok (.iconst 1, 1) := by decide +kernel
theorem dX8_addWord_63 : decode cX8_addWord 63 = .ok (.iadd, 1) := by decide +kernel
theorem dX8_addWord_64 : decode cX8_addWord 64 = .ok (.putfield 63, 3) := by decide +kernel
theorem dX8_addWord_67 : decode cX8_addWord 67 = .ok (.aload_n 0, 1) := by decide +kernel
theorem dX8_addWord_68 : decode cX8_addWord 68 = .ok (.getfield 63, 3) := by decide +kernel
theorem dX8_addWord_71 : decode cX8_addWord 71 = .ok (.iconst 1, 1) := by decide +kernel
theorem dX8_addWord_72 : decode cX8_addWord 72 = .ok (.isub, 1) := by decide +kernel
theorem dX8_addWord_73 : decode cX8_addWord 73 = .ok (.ireturn, 1) := by decide +kernel
theorem dX8_addPerson_0 : decode cX8_addPerson 0 = .ok (.aload_n 0, 1) := by decide +kernel
theorem dX8_addPerson_1 : decode cX8_addPerson 1 = .ok (.getfield 67, 3) := by decide +kernel
theorem dX8_addPerson_4 : decode cX8_addPerson 4 = .ok (.bipush 10, 2) := by decide +kernel
theorem dX8_addPerson_6 : decode cX8_addPerson 6 = .ok (.if_icmp .lt 5, 3) := by decide +kernel
theorem dX8_addPerson_9 : decode cX8_addPerson 9 = .ok (.iconst (-1), 1) := by decide +kernel
theorem dX8_addPerson_10 : decode cX8_addPerson 10 = .ok (.ireturn, 1) := by decide +kernel
theorem dX8_addPerson_11 : decode cX8_addPerson 11 = .ok (.aload_n 0, 1) := by decide +kernel
theorem dX8_addPerson_12 : decode cX8_addPerson 12 = .ok (.getfield 24, 3) := by decide +kernel
theorem dX8_addPerson_15 : decode cX8_addPerson 15 = .ok (.getfield 120, 3) := by decide +kernel
theorem dX8_addPerson_18 : decode cX8_addPerson 18 = .ok (.aload_n 0, 1) := by decide +kernel
theorem dX8_addPerson_19 : decode cX8_addPerson 19 = .ok (.getfield 67, 3) := by decide +kernel
theorem dX8_addPerson_22 : decode cX8_addPerson 22 = .ok (.iload_n 1, 1) := by decide +kernel
theorem dX8_addPerson_23 : decode cX8_addPerson 23 = .ok (.iastore, 1) := by decide +kernel
theorem dX8_addPerson_24 : decode cX8_addPerson 24 = .ok (.aload_n 0, 1) := by decide +kernel
theorem dX8_addPerson_25 : decode cX8_addPerson 25 = .ok (.getfield 24, 3) := by decide +kernel
theorem dX8_addPerson_28 : decode cX8_addPerson 28 = .ok (.getfield 103, 3) := by decide +kernel
theorem dX8_addPerson_31 : decode cX8_addPerson 31 = .ok (.aload_n 0, 1) := by decide +kernel
theorem dX8_addPerson_32 : decode cX8_addPerson 32 = .ok (.getfield 67, 3) := by decide +kernel
theorem dX8_addPerson_35 : decode cX8_addPerson 35 = .ok (.iconst 0, 1) := by decide +kernel
theorem dX8_addPerson_36 : decode cX8_addPerson 36 = .ok (.iastore, 1) := by decide +kernel
theorem dX8_addPerson_37 : decode cX8_addPerson 37 = .ok (.aload_n 0, 1) := by decide +kernel
theorem dX8_addPerson_38 : decode cX8_addPerson 38 = .ok (.getfield 24, 3) := by decide +kernel
theorem dX8_addPerson_41 : decode cX8_addPerson 41 = .ok (.getfield 123, 3) := by decide +kernel
theorem dX8_addPerson_44 : decode cX8_addPerson 44 = .ok (.aload_n 0, 1) := by decide +kernel
theorem dX8_addPerson_45 : decode cX8_addPerson 45 = .ok (.getfield 67, 3) := by decide +kernel
theorem dX8_addPerson_48 : decode cX8_addPerson 48 = .ok (.bipush 50, 2) := by decide +kernel
theorem dX8_addPerson_50 : decode cX8_addPerson 50 = .ok (.iastore, 1) := by decide +kernel
theorem dX8_addPerson_51 : decode cX8_addPerson 51 = .ok (.aload_n 0, 1) := by decide +kernel
theorem dX8_addPerson_52 : decode cX8_addPerson 52 = .ok (.dup, 1) := by decide +kernel
theorem dX8_addPerson_53 : decode cX8_addPerson 53 = .ok (.getfield 67, 3) := by decide +kernel
theorem dX8_addPerson_56 : decode cX8_addPerson 56 = .ok (.iconst 1, 1) := by decide +kernel
theorem dX8_addPerson_57 : decode cX8_addPerson 57 = .ok (.iadd, 1) := by decide +kernel
theorem dX8_addPerson_58 : decode cX8_addPerson 58 = .ok (.putfield 67, 3) := by decide +kernel
theorem dX8_addPerson_61 : decode cX8_addPerson 61 = .ok (.aload_n 0, 1) := by decide +kernel
theorem dX8_addPerson_62 : decode cX8_addPerson 62 = .ok (.getfield 67, 3) := by decide +kernel
theorem dX8_addPerson_65 : decode cX8_addPerson 65 = .ok (.iconst 1, 1) := by decide +kernel
theorem dX8_addPerson_66 : decode cX8_addPerson 66 = .ok (.isub, 1) := by decide +kernel
theorem dX8_addPerson_67 : decode cX8_addPerson 67 = .ok (.ireturn, 1) := by decide +kernel
theorem dX8_knowers_0 : decode cX8_knowers 0 = .ok (.iconst 0, 1) := by decide +kernel
theorem dX8_knowers_1 : decode cX8_knowers 1 = .ok (.istore_n 2, 1) := by decide +kernel
theorem dX8_knowers_2 : decode cX8_knowers 2 = .ok (.iconst 0, 1) := by decide +kernel
theorem dX8_knowers_3 : decode cX8_knowers 3 = .ok (.istore_n 3, 1) := by decide +kernel
theorem dX8_knowers_4 : decode cX8_knowers 4 = .ok (.iload_n 3, 1) := by decide +kernel
theorem dX8_knowers_5 : decode cX8_knowers 5 = .ok (.aload_n 0, 1) := by decide +kernel
theorem dX8_knowers_6 : decode cX8_knowers 6 = .ok (.getfield 67, 3) := by decide +kernel
theorem dX8_knowers_9 : decode cX8_knowers 9 = .ok (.if_icmp .ge 31, 3) := by decide +kernel
theorem dX8_knowers_12 : decode cX8_knowers 12 = .ok (.aload_n 0, 1) := by decide +kernel
theorem dX8_knowers_13 : decode cX8_knowers 13 = .ok (.getfield 24, 3) := by decide +kernel
theorem dX8_knowers_16 : decode cX8_knowers 16 = .ok (.getfield 103, 3) := by decide +kernel
theorem dX8_knowers_19 : decode cX8_knowers 19 = .ok (.iload_n 3, 1) := by decide +kernel
theorem dX8_knowers_20 : decode cX8_knowers 20 = .ok (.iaload, 1) := by decide +kernel
theorem dX8_knowers_21 : decode cX8_knowers 21 = .ok (.iload_n 1, 1) := by decide +kernel
theorem dX8_knowers_22 : decode cX8_knowers 22 = .ok (.invokestatic 95, 3) := by decide +kernel
theorem dX8_knowers_25 : decode cX8_knowers 25 = .ok (.ifCond .eq 9, 3) := by decide +kernel
theorem dX8_knowers_28 : decode cX8_knowers 28 = .ok (.iload_n 2, 1) := by decide +kernel
theorem dX8_knowers_29 : decode cX8_knowers 29 = .ok (.iconst 1, 1) := by decide +kernel
theorem dX8_knowers_30 : decode cX8_knowers 30 = .ok (.iload_n 3, 1) := by decide +kernel
theorem dX8_knowers_31 : decode cX8_knowers 31 = .ok (.ishl, 1) := by decide +kernel
theorem dX8_knowers_32 : decode cX8_knowers 32 = .ok (.ior, 1) := by decide +kernel
theorem dX8_knowers_33 : decode cX8_knowers 33 = .ok (.istore_n 2, 1) := by decide +kernel
theorem dX8_knowers_34 : decode cX8_knowers 34 = .ok (.iinc 3 1, 3) := by decide +kernel
theorem dX8_knowers_37 : decode cX8_knowers 37 = .ok (.goto (-33), 3) := by decide +kernel
theorem dX8_knowers_40 : decode cX8_knowers 40 = .ok (.iload_n 2, 1) := by decide +kernel
theorem dX8_knowers_41 : decode cX8_knowers 41 = .ok (.ireturn, 1) := by decide +kernel
theorem dX8_peopleAt_0 : decode cX8_peopleAt 0 = .ok (.iconst 0, 1) := by decide +kernel
theorem dX8_peopleAt_1 : decode cX8_peopleAt 1 = .ok (.istore_n 2, 1) := by decide +kernel
theorem dX8_peopleAt_2 : decode cX8_peopleAt 2 = .ok (.iconst 0, 1) := by decide +kernel
theorem dX8_peopleAt_3 : decode cX8_peopleAt 3 = .ok (.istore_n 3, 1) := by decide +kernel
theorem dX8_peopleAt_4 : decode cX8_peopleAt 4 = .ok (.iload_n 3, 1) := by decide +kernel
theorem dX8_peopleAt_5 : decode cX8_peopleAt 5 = .ok (.aload_n 0, 1) := by decide +kernel
theorem dX8_peopleAt_6 : decode cX8_peopleAt 6 = .ok (.getfield 67, 3) := by decide +kernel
theorem dX8_peopleAt_9 : decode cX8_peopleAt 9 = .ok (.if_icmp .ge 28, 3) := by decide +kernel
theorem dX8_peopleAt_12 : decode cX8_peopleAt 12 = .ok (.aload_n 0, 1) := by decide +kernel
theorem dX8_peopleAt_13 : decode cX8_peopleAt 13 = .ok (.getfield 24, 3) := by decide +kernel
theorem dX8_peopleAt_16 : decode cX8_peopleAt 16 = .ok (.getfield 120, 3) := by decide +kernel
theorem dX8_peopleAt_19 : decode cX8_peopleAt 19 = .ok (.iload_n 3, 1) := by decide +kernel
theorem dX8_peopleAt_20 : decode cX8_peopleAt 20 = .ok (.iaload, 1) := by decide +kernel
theorem dX8_peopleAt_21 : decode cX8_peopleAt 21 = .ok (.iload_n 1, 1) := by decide +kernel
theorem dX8_peopleAt_22 : decode cX8_peopleAt 22 = .ok (.if_icmp .ne 9, 3) := by decide +kernel
theorem dX8_peopleAt_25 : decode cX8_peopleAt 25 = .ok (.iload_n 2, 1) := by decide +kernel
theorem dX8_peopleAt_26 : decode cX8_peopleAt 26 = .ok (.iconst 1, 1) := by decide +kernel
theorem dX8_peopleAt_27 : decode cX8_peopleAt 27 = .ok (.iload_n 3, 1) := by decide +kernel
theorem dX8_peopleAt_28 : decode cX8_peopleAt 28 = .ok (.ishl, 1) := by decide +kernel
theorem dX8_peopleAt_29 : decode cX8_peopleAt 29 = .ok (.ior, 1) := by decide +kernel
theorem dX8_peopleAt_30 : decode cX8_peopleAt 30 = .ok (.istore_n 2, 1) := by decide +kernel
theorem dX8_peopleAt_31 : decode cX8_peopleAt 31 = .ok (.iinc 3 1, 3) := by decide +kernel
theorem dX8_peopleAt_34 : decode cX8_peopleAt 34 = .ok (.goto (-30), 3) := by decide +kernel
theorem dX8_peopleAt_37 : decode cX8_peopleAt 37 = .ok (.iload_n 2, 1) := by decide +kernel
theorem dX8_peopleAt_38 : decode cX8_peopleAt 38 = .ok (.ireturn, 1) := by decide +kernel
theorem dX8_milesBetween_0 : decode cX8_milesBetween 0 = .ok (.iload_n 1, 1) := by decide +kernel
theorem dX8_milesBetween_1 : decode cX8_milesBetween 1 = .ok (.invokestatic 126, 3) := by decide +kernel
theorem dX8_milesBetween_4 : decode cX8_milesBetween 4 = .ok (.ifCond .eq 24, 3) := by decide +kernel
theorem dX8_milesBetween_7 : decode cX8_milesBetween 7 = .ok (.iload_n 2, 1) := by decide +kernel
theorem dX8_milesBetween_8 : decode cX8_milesBetween 8 = .ok (.invokestatic 126, 3) := by decide +kernel
theorem dX8_milesBetween_11 : decode cX8_milesBetween 11 = .ok (.ifCond .eq 17, 3) := by decide +kernel
theorem dX8_milesBetween_14 : decode cX8_milesBetween 14 = .ok (.aload_n 0, 1) := by decide +kernel
theorem dX8_milesBetween_15 : decode cX8_milesBetween 15 = .ok (.getfield 18, 3) := by decide +kernel
theorem dX8_milesBetween_18 : decode cX8_milesBetween 18 = .ok (.iload_n 1, 1) := by decide +kernel
theorem dX8_milesBetween_19 : decode cX8_milesBetween 19 = .ok (.bipush 10, 2) := by decide +kernel
theorem dX8_milesBetween_21 : decode cX8_milesBetween 21 = .ok (.imul, 1) := by decide +kernel
theorem dX8_milesBetween_22 : decode cX8_milesBetween 22 = .ok (.iload_n 2, 1) := by decide +kernel
theorem dX8_milesBetween_23 : decode cX8_milesBetween 23 = .ok (.iadd, 1) := by decide +kernel
theorem dX8_milesBetween_24 : decode cX8_milesBetween 24 = .ok (.iaload, 1) := by decide +kernel
theorem dX8_milesBetween_25 : decode cX8_milesBetween 25 = .ok (.goto 4, 3) := by decide +kernel
theorem dX8_milesBetween_28 : decode cX8_milesBetween 28 = .ok (.iconst 0, 1) := by decide +kernel
theorem dX8_milesBetween_29 : decode cX8_milesBetween 29 = .ok (.ireturn, 1) := by decide +kernel
theorem dX8_heap_0 : decode cX8_heap 0 = .ok (.aload_n 0, 1) := by decide +kernel
theorem dX8_heap_1 : decode cX8_heap 1 = .ok (.iload_n 1, 1) := by decide +kernel
theorem dX8_heap_2 : decode cX8_heap 2 = .ok (.invokevirtual 129, 3) := by decide +kernel
theorem dX8_heap_5 : decode cX8_heap 5 = .ok (.ifCond .eq 18, 3) := by decide +kernel
theorem dX8_heap_8 : decode cX8_heap 8 = .ok (.aload_n 0, 1) := by decide +kernel
theorem dX8_heap_9 : decode cX8_heap 9 = .ok (.getfield 24, 3) := by decide +kernel
theorem dX8_heap_12 : decode cX8_heap 12 = .ok (.getfield 114, 3) := by decide +kernel
theorem dX8_heap_15 : decode cX8_heap 15 = .ok (.iload_n 1, 1) := by decide +kernel
theorem dX8_heap_16 : decode cX8_heap 16 = .ok (.iaload, 1) := by decide +kernel
theorem dX8_heap_17 : decode cX8_heap 17 = .ok (.bipush 8, 2) := by decide +kernel
theorem dX8_heap_19 : decode cX8_heap 19 = .ok (.irem, 1) := by decide +kernel
theorem dX8_heap_20 : decode cX8_heap 20 = .ok (.goto 4, 3) := by decide +kernel
theorem dX8_heap_23 : decode cX8_heap 23 = .ok (.iconst 0, 1) := by decide +kernel
theorem dX8_heap_24 : decode cX8_heap 24 = .ok (.ireturn, 1) := by decide +kernel
theorem dX8_lawFor_0 : decode cX8_lawFor 0 = .ok (.aload_n 0, 1) := by decide +kernel
theorem dX8_lawFor_1 : decode cX8_lawFor 1 = .ok (.iload_n 2, 1) := by decide +kernel
theorem dX8_lawFor_2 : decode cX8_lawFor 2 = .ok (.invokevirtual 129, 3) := by decide +kernel
theorem dX8_lawFor_5 : decode cX8_lawFor 5 = .ok (.ifCond .ne 5, 3) := by decide +kernel
theorem dX8_lawFor_8 : decode cX8_lawFor 8 = .ok (.iconst 0, 1) := by decide +kernel
theorem dX8_lawFor_9 : decode cX8_lawFor 9 = .ok (.ireturn, 1) := by decide +kernel
theorem dX8_lawFor_10 : decode cX8_lawFor 10 = .ok (.aload_n 0, 1) := by decide +kernel
theorem dX8_lawFor_11 : decode cX8_lawFor 11 = .ok (.getfield 60, 3) := by decide +kernel
theorem dX8_lawFor_14 : decode cX8_lawFor 14 = .ok (.iconst 0, 1) := by decide +kernel
theorem dX8_lawFor_15 : decode cX8_lawFor 15 = .ok (.iload_n 2, 1) := by decide +kernel
theorem dX8_lawFor_16 : decode cX8_lawFor 16 = .ok (.iastore, 1) := by decide +kernel
theorem dX8_lawFor_17 : decode cX8_lawFor 17 = .ok (.aload_n 0, 1) := by decide +kernel
theorem dX8_lawFor_18 : decode cX8_lawFor 18 = .ok (.getfield 60, 3) := by decide +kernel
theorem dX8_lawFor_21 : decode cX8_lawFor 21 = .ok (.iconst 1, 1) := by decide +kernel
theorem dX8_lawFor_22 : decode cX8_lawFor 22 = .ok (.aload_n 0, 1) := by decide +kernel
theorem dX8_lawFor_23 : decode cX8_lawFor 23 = .ok (.getfield 9, 3) := by decide +kernel
theorem dX8_lawFor_26 : decode cX8_lawFor 26 = .ok (.iload_n 2, 1) := by decide +kernel
theorem dX8_lawFor_27 : decode cX8_lawFor 27 = .ok (.iaload, 1) := by decide +kernel
theorem dX8_lawFor_28 : decode cX8_lawFor 28 = .ok (.iastore, 1) := by decide +kernel
theorem dX8_lawFor_29 : decode cX8_lawFor 29 = .ok (.aload_n 0, 1) := by decide +kernel
theorem dX8_lawFor_30 : decode cX8_lawFor 30 = .ok (.getfield 60, 3) := by decide +kernel
theorem dX8_lawFor_33 : decode cX8_lawFor 33 = .ok (.iconst 2, 1) := by decide +kernel
theorem dX8_lawFor_34 : decode cX8_lawFor 34 = .ok (.aload_n 0, 1) := by decide +kernel
theorem dX8_lawFor_35 : decode cX8_lawFor 35 = .ok (.getfield 24, 3) := by decide +kernel
theorem dX8_lawFor_38 : decode cX8_lawFor 38 = .ok (.getfield 114, 3) := by decide +kernel
theorem dX8_lawFor_41 : decode cX8_lawFor 41 = .ok (.iload_n 2, 1) := by decide +kernel
theorem dX8_lawFor_42 : decode cX8_lawFor 42 = .ok (.iaload, 1) := by decide +kernel
theorem dX8_lawFor_43 : decode cX8_lawFor 43 = .ok (.iastore, 1) := by decide +kernel
theorem dX8_lawFor_44 : decode cX8_lawFor 44 = .ok (.aload_n 0, 1) := by decide +kernel
theorem dX8_lawFor_45 : decode cX8_lawFor 45 = .ok (.getfield 60, 3) := by decide +kernel
theorem dX8_lawFor_48 : decode cX8_lawFor 48 = .ok (.iconst 3, 1) := by decide +kernel
theorem dX8_lawFor_49 : decode cX8_lawFor 49 = .ok (.aload_n 0, 1) := by decide +kernel
theorem dX8_lawFor_50 : decode cX8_lawFor 50 = .ok (.getfield 24, 3) := by decide +kernel
theorem dX8_lawFor_53 : decode cX8_lawFor 53 = .ok (.getfield 117, 3) := by decide +kernel
theorem dX8_lawFor_56 : decode cX8_lawFor 56 = .ok (.iload_n 2, 1) := by decide +kernel
theorem dX8_lawFor_57 : decode cX8_lawFor 57 = .ok (.iaload, 1) := by decide +kernel
theorem dX8_lawFor_58 : decode cX8_lawFor 58 = .ok (.iastore, 1) := by decide +kernel
theorem dX8_lawFor_59 : decode cX8_lawFor 59 = .ok (.aload_n 0, 1) := by decide +kernel
theorem dX8_lawFor_60 : decode cX8_lawFor 60 = .ok (.getfield 60, 3) := by decide +kernel
theorem dX8_lawFor_63 : decode cX8_lawFor 63 = .ok (.iconst 4, 1) := by decide +kernel
theorem dX8_lawFor_64 : decode cX8_lawFor 64 = .ok (.aload_n 0, 1) := by decide +kernel
theorem dX8_lawFor_65 : decode cX8_lawFor 65 = .ok (.getfield 15, 3) := by decide +kernel
theorem dX8_lawFor_68 : decode cX8_lawFor 68 = .ok (.iload_n 2, 1) := by decide +kernel
theorem dX8_lawFor_69 : decode cX8_lawFor 69 = .ok (.iaload, 1) := by decide +kernel
theorem dX8_lawFor_70 : decode cX8_lawFor 70 = .ok (.aload_n 0, 1) := by decide +kernel
theorem dX8_lawFor_71 : decode cX8_lawFor 71 = .ok (.invokevirtual 106, 3) := by decide +kernel
theorem dX8_lawFor_74 : decode cX8_lawFor 74 = .ok (.iand, 1) := by decide +kernel
theorem dX8_lawFor_75 : decode cX8_lawFor 75 = .ok (.invokestatic 132, 3) := by decide +kernel
theorem dX8_lawFor_78 : decode cX8_lawFor 78 = .ok (.iastore, 1) := by decide +kernel
theorem dX8_lawFor_79 : decode cX8_lawFor 79 = .ok (.aload_n 0, 1) := by decide +kernel
theorem dX8_lawFor_80 : decode cX8_lawFor 80 = .ok (.getfield 60, 3) := by decide +kernel
theorem dX8_lawFor_83 : decode cX8_lawFor 83 = .ok (.iconst 5, 1) := by decide +kernel
theorem dX8_lawFor_84 : decode cX8_lawFor 84 = .ok (.aload_n 0, 1) := by decide +kernel
theorem dX8_lawFor_85 : decode cX8_lawFor 85 = .ok (.iload_n 2, 1) := by decide +kernel
theorem dX8_lawFor_86 : decode cX8_lawFor 86 = .ok (.invokevirtual 137, 3) := by decide +kernel
theorem dX8_lawFor_89 : decode cX8_lawFor 89 = .ok (.invokestatic 132, 3) := by decide +kernel
theorem dX8_lawFor_92 : decode cX8_lawFor 92 = .ok (.iastore, 1) := by decide +kernel
theorem dX8_lawFor_93 : decode cX8_lawFor 93 = .ok (.aload_n 0, 1) := by decide +kernel
theorem dX8_lawFor_94 : decode cX8_lawFor 94 = .ok (.getfield 60, 3) := by decide +kernel
theorem dX8_lawFor_97 : decode cX8_lawFor 97 = .ok (.bipush 6, 2) := by decide +kernel
theorem dX8_lawFor_99 : decode cX8_lawFor 99 = .ok (.iload_n 3, 1) := by decide +kernel
theorem dX8_lawFor_100 : decode cX8_lawFor 100 = .ok (.iastore, 1) := by decide +kernel
theorem dX8_lawFor_101 : decode cX8_lawFor 101 = .ok (.aload_n 0, 1) := by decide +kernel
theorem dX8_lawFor_102 : decode cX8_lawFor 102 = .ok (.getfield 60, 3) := by decide +kernel
theorem dX8_lawFor_105 : decode cX8_lawFor 105 = .ok (.bipush 7, 2) := by decide +kernel
theorem dX8_lawFor_107 : decode cX8_lawFor 107 = .ok (.aload_n 0, 1) := by decide +kernel
theorem dX8_lawFor_108 : decode cX8_lawFor 108 = .ok (.getfield 24, 3) := by decide +kernel
theorem dX8_lawFor_111 : decode cX8_lawFor 111 = .ok (.getfield 140, 3) := by decide +kernel
theorem dX8_lawFor_114 : decode cX8_lawFor 114 = .ok (.iastore, 1) := by decide +kernel
theorem dX8_lawFor_115 : decode cX8_lawFor 115 = .ok (.iload_n 1, 1) := by decide +kernel
theorem dX8_lawFor_116 : decode cX8_lawFor 116 = .ok (.bipush 104, 2) := by decide +kernel
theorem dX8_lawFor_118 : decode cX8_lawFor 118 = .ok (.if_icmp .ne 26, 3) := by decide +kernel
theorem dX8_lawFor_121 : decode cX8_lawFor 121 = .ok (.aload_n 0, 1) := by decide +kernel
theorem dX8_lawFor_122 : decode cX8_lawFor 122 = .ok (.getfield 56, 3) := by decide +kernel
theorem dX8_lawFor_125 : decode cX8_lawFor 125 = .ok (.iload_n 1, 1) := by decide +kernel
theorem dX8_lawFor_126 : decode cX8_lawFor 126 = .ok (.aload_n 0, 1) := by decide +kernel
theorem dX8_lawFor_127 : decode cX8_lawFor 127 = .ok (.getfield 60, 3) := by decide +kernel
theorem dX8_lawFor_130 : decode cX8_lawFor 130 = .ok (.sipush 365, 3) := by decide +kernel
theorem dX8_lawFor_133 : decode cX8_lawFor 133 = .ok (.invokevirtual 143, 3) := by decide +kernel
theorem dX8_lawFor_136 : decode cX8_lawFor 136 = .ok (.iconst 1, 1) := by decide +kernel
theorem dX8_lawFor_137 : decode cX8_lawFor 137 = .ok (.sipush 9999, 3) := by decide +kernel
theorem dX8_lawFor_140 : decode cX8_lawFor 140 = .ok (.invokestatic 147, 3) := by decide +kernel
theorem dX8_lawFor_143 : decode cX8_lawFor 143 = .ok (.ireturn, 1) := by decide +kernel
theorem dX8_lawFor_144 : decode cX8_lawFor 144 = .ok (.iload_n 1, 1) := by decide +kernel
theorem dX8_lawFor_145 : decode cX8_lawFor 145 = .ok (.bipush 105, 2) := by decide +kernel
theorem dX8_lawFor_147 : decode cX8_lawFor 147 = .ok (.if_icmp .ne 23, 3) := by decide +kernel
theorem dX8_lawFor_150 : decode cX8_lawFor 150 = .ok (.aload_n 0, 1) := by decide +kernel
theorem dX8_lawFor_151 : decode cX8_lawFor 151 = .ok (.getfield 56, 3) := by decide +kernel
theorem dX8_lawFor_154 : decode cX8_lawFor 154 = .ok (.iload_n 1, 1) := by decide +kernel
theorem dX8_lawFor_155 : decode cX8_lawFor 155 = .ok (.aload_n 0, 1) := by decide +kernel
theorem dX8_lawFor_156 : decode cX8_lawFor 156 = .ok (.getfield 60, 3) := by decide +kernel
theorem dX8_lawFor_159 : decode cX8_lawFor 159 = .ok (.iconst 2, 1) := by decide +kernel
theorem dX8_lawFor_160 : decode cX8_lawFor 160 = .ok (.invokevirtual 143, 3) := by decide +kernel
theorem dX8_lawFor_163 : decode cX8_lawFor 163 = .ok (.iconst 0, 1) := by decide +kernel
theorem dX8_lawFor_164 : decode cX8_lawFor 164 = .ok (.bipush 9, 2) := by decide +kernel
theorem dX8_lawFor_166 : decode cX8_lawFor 166 = .ok (.invokestatic 147, 3) := by decide +kernel
theorem dX8_lawFor_169 : decode cX8_lawFor 169 = .ok (.ireturn, 1) := by decide +kernel
theorem dX8_lawFor_170 : decode cX8_lawFor 170 = .ok (.aload_n 0, 1) := by decide +kernel
theorem dX8_lawFor_171 : decode cX8_lawFor 171 = .ok (.getfield 56, 3) := by decide +kernel
theorem dX8_lawFor_174 : decode cX8_lawFor 174 = .ok (.iload_n 1, 1) := by decide +kernel
theorem dX8_lawFor_175 : decode cX8_lawFor 175 = .ok (.aload_n 0, 1) := by decide +kernel
theorem dX8_lawFor_176 : decode cX8_lawFor 176 = .ok (.getfield 60, 3) := by decide +kernel
theorem dX8_lawFor_179 : decode cX8_lawFor 179 = .ok (.aload_n 0, 1) := by decide +kernel
theorem dX8_lawFor_180 : decode cX8_lawFor 180 = .ok (.getfield 9, 3) := by decide +kernel
theorem dX8_lawFor_183 : decode cX8_lawFor 183 = .ok (.iload_n 2, 1) := by decide +kernel
theorem dX8_lawFor_184 : decode cX8_lawFor 184 = .ok (.iaload, 1) := by decide +kernel
theorem dX8_lawFor_185 : decode cX8_lawFor 185 = .ok (.invokevirtual 143, 3) := by decide +kernel
theorem dX8_lawFor_188 : decode cX8_lawFor 188 = .ok (.iconst 0, 1) := by decide +kernel
theorem dX8_lawFor_189 : decode cX8_lawFor 189 = .ok (.bipush 99, 2) := by decide +kernel
theorem dX8_lawFor_191 : decode cX8_lawFor 191 = .ok (.invokestatic 147, 3) := by decide +kernel
theorem dX8_lawFor_194 : decode cX8_lawFor 194 = .ok (.ireturn, 1) := by decide +kernel
theorem dX8_held_0 : decode cX8_held 0 = .ok (.iload_n 1, 1) := by decide +kernel
theorem dX8_held_1 : decode cX8_held 1 = .ok (.iload_n 2, 1) := by decide +kernel
theorem dX8_held_2 : decode cX8_held 2 = .ok (.iload_n 0, 1) := by decide +kernel
theorem dX8_held_3 : decode cX8_held 3 = .ok (.invokestatic 151, 3) := by decide +kernel
theorem dX8_held_6 : decode cX8_held 6 = .ok (.invokestatic 157, 3) := by decide +kernel
theorem dX8_held_9 : decode cX8_held 9 = .ok (.ireturn, 1) := by decide +kernel
theorem dX8_canSpeak_0 : decode cX8_canSpeak 0 = .ok (.aload_n 0, 1) := by decide +kernel
theorem dX8_canSpeak_1 : decode cX8_canSpeak 1 = .ok (.iload_n 1, 1) := by decide +kernel
theorem dX8_canSpeak_2 : decode cX8_canSpeak 2 = .ok (.invokevirtual 99, 3) := by decide +kernel
theorem dX8_canSpeak_5 : decode cX8_canSpeak 5 = .ok (.ifCond .eq 60, 3) := by decide +kernel
theorem dX8_canSpeak_8 : decode cX8_canSpeak 8 = .ok (.aload_n 0, 1) := by decide +kernel
theorem dX8_canSpeak_9 : decode cX8_canSpeak 9 = .ok (.iload_n 2, 1) := by decide +kernel
theorem dX8_canSpeak_10 : decode cX8_canSpeak 10 = .ok (.invokevirtual 129, 3) := by decide +kernel
theorem dX8_canSpeak_13 : decode cX8_canSpeak 13 = .ok (.ifCond .eq 52, 3) := by decide +kernel
theorem dX8_canSpeak_16 : decode cX8_canSpeak 16 = .ok (.aload_n 0, 1) := by decide +kernel
theorem dX8_canSpeak_17 : decode cX8_canSpeak 17 = .ok (.iload_n 1, 1) := by decide +kernel
theorem dX8_canSpeak_18 : decode cX8_canSpeak 18 = .ok (.iload_n 2, 1) := by decide +kernel
theorem dX8_canSpeak_19 : decode cX8_canSpeak 19 = .ok (.invokevirtual 160, 3) := by decide +kernel
theorem dX8_canSpeak_22 : decode cX8_canSpeak 22 = .ok (.ifCond .eq 43, 3) := by decide +kernel
theorem dX8_canSpeak_25 : decode cX8_canSpeak 25 = .ok (.aload_n 0, 1) := by decide +kernel
theorem dX8_canSpeak_26 : decode cX8_canSpeak 26 = .ok (.iload_n 2, 1) := by decide +kernel
theorem dX8_canSpeak_27 : decode cX8_canSpeak 27 = .ok (.invokevirtual 163, 3) := by decide +kernel
theorem dX8_canSpeak_30 : decode cX8_canSpeak 30 = .ok (.ifCond .ne 35, 3) := by decide +kernel
theorem dX8_canSpeak_33 : decode cX8_canSpeak 33 = .ok (.aload_n 0, 1) := by decide +kernel
theorem dX8_canSpeak_34 : decode cX8_canSpeak 34 = .ok (.getfield 24, 3) := by decide +kernel
theorem dX8_canSpeak_37 : decode cX8_canSpeak 37 = .ok (.getfield 123, 3) := by decide +kernel
theorem dX8_canSpeak_40 : decode cX8_canSpeak 40 = .ok (.iload_n 1, 1) := by decide +kernel
theorem dX8_canSpeak_41 : decode cX8_canSpeak 41 = .ok (.iaload, 1) := by decide +kernel
theorem dX8_canSpeak_42 : decode cX8_canSpeak 42 = .ok (.aload_n 0, 1) := by decide +kernel
theorem dX8_canSpeak_43 : decode cX8_canSpeak 43 = .ok (.bipush 106, 2) := by decide +kernel
theorem dX8_canSpeak_45 : decode cX8_canSpeak 45 = .ok (.iload_n 2, 1) := by decide +kernel
theorem dX8_canSpeak_46 : decode cX8_canSpeak 46 = .ok (.aload_n 0, 1) := by decide +kernel
theorem dX8_canSpeak_47 : decode cX8_canSpeak 47 = .ok (.getfield 24, 3) := by decide +kernel
theorem dX8_canSpeak_50 : decode cX8_canSpeak 50 = .ok (.getfield 120, 3) := by decide +kernel
theorem dX8_canSpeak_53 : decode cX8_canSpeak 53 = .ok (.iload_n 1, 1) := by decide +kernel
theorem dX8_canSpeak_54 : decode cX8_canSpeak 54 = .ok (.iaload, 1) := by decide +kernel
theorem dX8_canSpeak_55 : decode cX8_canSpeak 55 = .ok (.invokevirtual 166, 3) := by decide +kernel
theorem dX8_canSpeak_58 : decode cX8_canSpeak 58 = .ok (.if_icmp .lt 7, 3) := by decide +kernel
theorem dX8_canSpeak_61 : decode cX8_canSpeak 61 = .ok (.iconst 1, 1) := by decide +kernel
theorem dX8_canSpeak_62 : decode cX8_canSpeak 62 = .ok (.goto 4, 3) := by decide +kernel
theorem dX8_canSpeak_65 : decode cX8_canSpeak 65 = .ok (.iconst 0, 1) := by decide +kernel
theorem dX8_canSpeak_66 : decode cX8_canSpeak 66 = .ok (.ireturn, 1) := by decide +kernel
theorem dX8_speak_0 : decode cX8_speak 0 = .ok (.aload_n 0, 1) := by decide +kernel
theorem dX8_speak_1 : decode cX8_speak 1 = .ok (.iload_n 1, 1) := by decide +kernel
theorem dX8_speak_2 : decode cX8_speak 2 = .ok (.invokevirtual 99, 3) := by decide +kernel
theorem dX8_speak_5 : decode cX8_speak 5 = .ok (.ifCond .eq 11, 3) := by decide +kernel
theorem dX8_speak_8 : decode cX8_speak 8 = .ok (.aload_n 0, 1) := by decide +kernel
theorem dX8_speak_9 : decode cX8_speak 9 = .ok (.iload_n 2, 1) := by decide +kernel
theorem dX8_speak_10 : decode cX8_speak 10 = .ok (.invokevirtual 129, 3) := by decide +kernel
theorem dX8_speak_13 : decode cX8_speak 13 = .ok (.ifCond .ne 5, 3) := by decide +kernel
theorem dX8_speak_16 : decode cX8_speak 16 = .ok (.iconst 0, 1) := by decide +kernel
theorem dX8_speak_17 : decode cX8_speak 17 = .ok (.ireturn, 1) := by decide +kernel
theorem dX8_speak_18 : decode cX8_speak 18 = .ok (.aload_n 0, 1) := by decide +kernel
theorem dX8_speak_19 : decode cX8_speak 19 = .ok (.aload_n 0, 1) := by decide +kernel
theorem dX8_speak_20 : decode cX8_speak 20 = .ok (.getfield 24, 3) := by decide +kernel
theorem dX8_speak_23 : decode cX8_speak 23 = .ok (.getfield 120, 3) := by decide +kernel
theorem dX8_speak_26 : decode cX8_speak 26 = .ok (.iload_n 1, 1) := by decide +kernel
theorem dX8_speak_27 : decode cX8_speak 27 = .ok (.iaload, 1) := by decide +kernel
theorem dX8_speak_28 : decode cX8_speak 28 = .ok (.invokevirtual 169, 3) := by decide +kernel
theorem dX8_speak_31 : decode cX8_speak 31 = .ok (.iconst 1, 1) := by decide +kernel
theorem dX8_speak_32 : decode cX8_speak 32 = .ok (.iload_n 1, 1) := by decide +kernel
theorem dX8_speak_33 : decode cX8_speak 33 = .ok (.ishl, 1) := by decide +kernel
theorem dX8_speak_34 : decode cX8_speak 34 = .ok (.iconst (-1), 1) := by decide +kernel
theorem dX8_speak_35 : decode cX8_speak 35 = .ok (.ixor, 1) := by decide +kernel
theorem dX8_speak_36 : decode cX8_speak 36 = .ok (.iand, 1) := by decide +kernel
theorem dX8_speak_37 : decode cX8_speak 37 = .ok (.istore_n 3, 1) := by decide +kernel
theorem dX8_speak_38 : decode cX8_speak 38 = .ok (.iload_n 3, 1) := by decide +kernel
theorem dX8_speak_39 : decode cX8_speak 39 = .ok (.aload_n 0, 1) := by decide +kernel
theorem dX8_speak_40 : decode cX8_speak 40 = .ok (.iload_n 2, 1) := by decide +kernel
theorem dX8_speak_41 : decode cX8_speak 41 = .ok (.invokevirtual 137, 3) := by decide +kernel
theorem dX8_speak_44 : decode cX8_speak 44 = .ok (.iand, 1) := by decide +kernel
theorem dX8_speak_45 : decode cX8_speak 45 = .ok (.invokestatic 132, 3) := by decide +kernel
theorem dX8_speak_48 : decode cX8_speak 48 = .ok (.istore 4, 2) := by decide +kernel
theorem dX8_speak_50 : decode cX8_speak 50 = .ok (.iload 4, 2) := by decide +kernel
theorem dX8_speak_52 : decode cX8_speak 52 = .ok (.aload_n 0, 1) := by decide +kernel
theorem dX8_speak_53 : decode cX8_speak 53 = .ok (.bipush 105, 2) := by decide +kernel
theorem dX8_speak_55 : decode cX8_speak 55 = .ok (.iload_n 2, 1) := by decide +kernel
theorem dX8_speak_56 : decode cX8_speak 56 = .ok (.aload_n 0, 1) := by decide +kernel
theorem dX8_speak_57 : decode cX8_speak 57 = .ok (.getfield 24, 3) := by decide +kernel
theorem dX8_speak_60 : decode cX8_speak 60 = .ok (.getfield 120, 3) := by decide +kernel
theorem dX8_speak_63 : decode cX8_speak 63 = .ok (.iload_n 1, 1) := by decide +kernel
theorem dX8_speak_64 : decode cX8_speak 64 = .ok (.iaload, 1) := by decide +kernel
theorem dX8_speak_65 : decode cX8_speak 65 = .ok (.invokevirtual 166, 3) := by decide +kernel
theorem dX8_speak_68 : decode cX8_speak 68 = .ok (.if_icmp .lt 7, 3) := by decide +kernel
theorem dX8_speak_71 : decode cX8_speak 71 = .ok (.iconst 1, 1) := by decide +kernel
theorem dX8_speak_72 : decode cX8_speak 72 = .ok (.goto 4, 3) := by decide +kernel
theorem dX8_speak_75 : decode cX8_speak 75 = .ok (.iconst 0, 1) := by decide +kernel
theorem dX8_speak_76 : decode cX8_speak 76 = .ok (.istore 5, 2) := by decide +kernel
theorem dX8_speak_78 : decode cX8_speak 78 = .ok (.aload_n 0, 1) := by decide +kernel
theorem dX8_speak_79 : decode cX8_speak 79 = .ok (.getfield 24, 3) := by decide +kernel
theorem dX8_speak_82 : decode cX8_speak 82 = .ok (.getfield 123, 3) := by decide +kernel
theorem dX8_speak_85 : decode cX8_speak 85 = .ok (.iload_n 1, 1) := by decide +kernel
theorem dX8_speak_86 : decode cX8_speak 86 = .ok (.dup2, 1) := by decide +kernel
theorem dX8_speak_87 : decode cX8_speak 87 = .ok (.iaload, 1) := by decide +kernel
theorem dX8_speak_88 : decode cX8_speak 88 = .ok (.aload_n 0, 1) := by decide +kernel
theorem dX8_speak_89 : decode cX8_speak 89 = .ok (.bipush 106, 2) := by decide +kernel
theorem dX8_speak_91 : decode cX8_speak 91 = .ok (.iload_n 2, 1) := by decide +kernel
theorem dX8_speak_92 : decode cX8_speak 92 = .ok (.aload_n 0, 1) := by decide +kernel
theorem dX8_speak_93 : decode cX8_speak 93 = .ok (.getfield 24, 3) := by decide +kernel
theorem dX8_speak_96 : decode cX8_speak 96 = .ok (.getfield 120, 3) := by decide +kernel
theorem dX8_speak_99 : decode cX8_speak 99 = .ok (.iload_n 1, 1) := by decide +kernel
theorem dX8_speak_100 : decode cX8_speak 100 = .ok (.iaload, 1) := by decide +kernel
theorem dX8_speak_101 : decode cX8_speak 101 = .ok (.invokevirtual 166, 3) := by decide +kernel
theorem dX8_speak_104 : decode cX8_speak 104 = .ok (.isub, 1) := by decide +kernel
theorem dX8_speak_105 : decode cX8_speak 105 = .ok (.iastore, 1) := by decide +kernel
theorem dX8_speak_106 : decode cX8_speak 106 = .ok (.iload 5, 2) := by decide +kernel
theorem dX8_speak_108 : decode cX8_speak 108 = .ok (.ifCond .eq 9, 3) := by decide +kernel
theorem dX8_speak_111 : decode cX8_speak 111 = .ok (.aload_n 0, 1) := by decide +kernel
theorem dX8_speak_112 : decode cX8_speak 112 = .ok (.iload_n 2, 1) := by decide +kernel
theorem dX8_speak_113 : decode cX8_speak 113 = .ok (.iload_n 3, 1) := by decide +kernel
theorem dX8_speak_114 : decode cX8_speak 114 = .ok (.invokevirtual 172, 3) := by decide +kernel
theorem dX8_speak_117 : decode cX8_speak 117 = .ok (.aload_n 0, 1) := by decide +kernel
theorem dX8_speak_118 : decode cX8_speak 118 = .ok (.getfield 33, 3) := by decide +kernel
theorem dX8_speak_121 : decode cX8_speak 121 = .ok (.aload_n 0, 1) := by decide +kernel
theorem dX8_speak_122 : decode cX8_speak 122 = .ok (.getfield 24, 3) := by decide +kernel
theorem dX8_speak_125 : decode cX8_speak 125 = .ok (.getfield 140, 3) := by decide +kernel
theorem dX8_speak_128 : decode cX8_speak 128 = .ok (.iload 5, 2) := by decide +kernel
theorem dX8_speak_130 : decode cX8_speak 130 = .ok (.ifCond .eq 7, 3) := by decide +kernel
theorem dX8_speak_133 : decode cX8_speak 133 = .ok (.iconst 0, 1) := by decide +kernel
theorem dX8_speak_134 : decode cX8_speak 134 = .ok (.goto 4, 3) := by decide +kernel
theorem dX8_speak_137 : decode cX8_speak 137 = .ok (.iconst 1, 1) := by decide +kernel
theorem dX8_speak_138 : decode cX8_speak 138 = .ok (.iload_n 1, 1) := by decide +kernel
theorem dX8_speak_139 : decode cX8_speak 139 = .ok (.iload_n 2, 1) := by decide +kernel
theorem dX8_speak_140 : decode cX8_speak 140 = .ok (.invokevirtual 176, 3) := by decide +kernel
theorem dX8_speak_143 : decode cX8_speak 143 = .ok (.iload 5, 2) := by decide +kernel
theorem dX8_speak_145 : decode cX8_speak 145 = .ok (.ireturn, 1) := by decide +kernel
theorem dX8_spread_0 : decode cX8_spread 0 = .ok (.aload_n 0, 1) := by decide +kernel
theorem dX8_spread_1 : decode cX8_spread 1 = .ok (.getfield 24, 3) := by decide +kernel
theorem dX8_spread_4 : decode cX8_spread 4 = .ok (.getfield 114, 3) := by decide +kernel
theorem dX8_spread_7 : decode cX8_spread 7 = .ok (.iload_n 1, 1) := by decide +kernel
theorem dX8_spread_8 : decode cX8_spread 8 = .ok (.iconst 0, 1) := by decide +kernel
theorem dX8_spread_9 : decode cX8_spread 9 = .ok (.iastore, 1) := by decide +kernel
theorem dX8_spread_10 : decode cX8_spread 10 = .ok (.aload_n 0, 1) := by decide +kernel
theorem dX8_spread_11 : decode cX8_spread 11 = .ok (.getfield 24, 3) := by decide +kernel
theorem dX8_spread_14 : decode cX8_spread 14 = .ok (.getfield 117, 3) := by decide +kernel
theorem dX8_spread_17 : decode cX8_spread 17 = .ok (.iload_n 1, 1) := by decide +kernel
theorem dX8_spread_18 : decode cX8_spread 18 = .ok (.dup2, 1) := by decide +kernel
theorem dX8_spread_19 : decode cX8_spread 19 = .ok (.iaload, 1) := by decide +kernel
theorem dX8_spread_20 : decode cX8_spread 20 = .ok (.iconst 1, 1) := by decide +kernel
theorem dX8_spread_21 : decode cX8_spread 21 = .ok (.iadd, 1) := by decide +kernel
theorem dX8_spread_22 : decode cX8_spread 22 = .ok (.iastore, 1) := by decide +kernel
theorem dX8_spread_23 : decode cX8_spread 23 = .ok (.aload_n 0, 1) := by decide +kernel
theorem dX8_spread_24 : decode cX8_spread 24 = .ok (.getfield 15, 3) := by decide +kernel
theorem dX8_spread_27 : decode cX8_spread 27 = .ok (.iload_n 1, 1) := by decide +kernel
theorem dX8_spread_28 : decode cX8_spread 28 = .ok (.iaload, 1) := by decide +kernel
theorem dX8_spread_29 : decode cX8_spread 29 = .ok (.aload_n 0, 1) := by decide +kernel
theorem dX8_spread_30 : decode cX8_spread 30 = .ok (.invokevirtual 106, 3) := by decide +kernel
theorem dX8_spread_33 : decode cX8_spread 33 = .ok (.iand, 1) := by decide +kernel
theorem dX8_spread_34 : decode cX8_spread 34 = .ok (.istore_n 3, 1) := by decide +kernel
theorem dX8_spread_35 : decode cX8_spread 35 = .ok (.iconst 0, 1) := by decide +kernel
theorem dX8_spread_36 : decode cX8_spread 36 = .ok (.istore 4, 2) := by decide +kernel
theorem dX8_spread_38 : decode cX8_spread 38 = .ok (.iload 4, 2) := by decide +kernel
theorem dX8_spread_40 : decode cX8_spread 40 = .ok (.aload_n 0, 1) := by decide +kernel
theorem dX8_spread_41 : decode cX8_spread 41 = .ok (.getfield 63, 3) := by decide +kernel
theorem dX8_spread_44 : decode cX8_spread 44 = .ok (.if_icmp .ge 32, 3) := by decide +kernel
theorem dX8_spread_47 : decode cX8_spread 47 = .ok (.iload_n 3, 1) := by decide +kernel
theorem dX8_spread_48 : decode cX8_spread 48 = .ok (.iload 4, 2) := by decide +kernel
theorem dX8_spread_50 : decode cX8_spread 50 = .ok (.invokestatic 95, 3) := by decide +kernel
theorem dX8_spread_53 : decode cX8_spread 53 = .ok (.ifCond .eq 17, 3) := by decide +kernel
theorem dX8_spread_56 : decode cX8_spread 56 = .ok (.aload_n 0, 1) := by decide +kernel
theorem dX8_spread_57 : decode cX8_spread 57 = .ok (.getfield 24, 3) := by decide +kernel
theorem dX8_spread_60 : decode cX8_spread 60 = .ok (.getfield 114, 3) := by decide +kernel
theorem dX8_spread_63 : decode cX8_spread 63 = .ok (.iload 4, 2) := by decide +kernel
theorem dX8_spread_65 : decode cX8_spread 65 = .ok (.dup2, 1) := by decide +kernel
theorem dX8_spread_66 : decode cX8_spread 66 = .ok (.iaload, 1) := by decide +kernel
theorem dX8_spread_67 : decode cX8_spread 67 = .ok (.iconst 2, 1) := by decide +kernel
theorem dX8_spread_68 : decode cX8_spread 68 = .ok (.idiv, 1) := by decide +kernel
theorem dX8_spread_69 : decode cX8_spread 69 = .ok (.iastore, 1) := by decide +kernel
theorem dX8_spread_70 : decode cX8_spread 70 = .ok (.iinc 4 1, 3) := by decide +kernel
theorem dX8_spread_73 : decode cX8_spread 73 = .ok (.goto (-35), 3) := by decide +kernel
theorem dX8_spread_76 : decode cX8_spread 76 = .ok (.iconst 0, 1) := by decide +kernel
theorem dX8_spread_77 : decode cX8_spread 77 = .ok (.istore 4, 2) := by decide +kernel
theorem dX8_spread_79 : decode cX8_spread 79 = .ok (.iload 4, 2) := by decide +kernel
theorem dX8_spread_81 : decode cX8_spread 81 = .ok (.aload_n 0, 1) := by decide +kernel
theorem dX8_spread_82 : decode cX8_spread 82 = .ok (.getfield 67, 3) := by decide +kernel
theorem dX8_spread_85 : decode cX8_spread 85 = .ok (.if_icmp .ge 34, 3) := by decide +kernel
theorem dX8_spread_88 : decode cX8_spread 88 = .ok (.iload_n 2, 1) := by decide +kernel
theorem dX8_spread_89 : decode cX8_spread 89 = .ok (.iload 4, 2) := by decide +kernel
theorem dX8_spread_91 : decode cX8_spread 91 = .ok (.invokestatic 95, 3) := by decide +kernel
theorem dX8_spread_94 : decode cX8_spread 94 = .ok (.ifCond .eq 19, 3) := by decide +kernel
theorem dX8_spread_97 : decode cX8_spread 97 = .ok (.aload_n 0, 1) := by decide +kernel
theorem dX8_spread_98 : decode cX8_spread 98 = .ok (.getfield 24, 3) := by decide +kernel
theorem dX8_spread_101 : decode cX8_spread 101 = .ok (.getfield 103, 3) := by decide +kernel
theorem dX8_spread_104 : decode cX8_spread 104 = .ok (.iload 4, 2) := by decide +kernel
theorem dX8_spread_106 : decode cX8_spread 106 = .ok (.dup2, 1) := by decide +kernel
theorem dX8_spread_107 : decode cX8_spread 107 = .ok (.iaload, 1) := by decide +kernel
theorem dX8_spread_108 : decode cX8_spread 108 = .ok (.iconst 1, 1) := by decide +kernel
theorem dX8_spread_109 : decode cX8_spread 109 = .ok (.iload_n 1, 1) := by decide +kernel
theorem dX8_spread_110 : decode cX8_spread 110 = .ok (.ishl, 1) := by decide +kernel
theorem dX8_spread_111 : decode cX8_spread 111 = .ok (.ior, 1) := by decide +kernel
theorem dX8_spread_112 : decode cX8_spread 112 = .ok (.iastore, 1) := by decide +kernel
theorem dX8_spread_113 : decode cX8_spread 113 = .ok (.iinc 4 1, 3) := by decide +kernel
theorem dX8_spread_116 : decode cX8_spread 116 = .ok (.goto (-37), 3) := by decide +kernel
theorem dX8_spread_119 : decode cX8_spread 119 = .ok (.return_, 1) := by decide +kernel
theorem dX8_moveTo_0 : decode cX8_moveTo 0 = .ok (.aload_n 0, 1) := by decide +kernel
theorem dX8_moveTo_1 : decode cX8_moveTo 1 = .ok (.iload_n 1, 1) := by decide +kernel
theorem dX8_moveTo_2 : decode cX8_moveTo 2 = .ok (.invokevirtual 99, 3) := by decide +kernel
theorem dX8_moveTo_5 : decode cX8_moveTo 5 = .ok (.ifCond .eq 30, 3) := by decide +kernel
theorem dX8_moveTo_8 : decode cX8_moveTo 8 = .ok (.aload_n 0, 1) := by decide +kernel
theorem dX8_moveTo_9 : decode cX8_moveTo 9 = .ok (.getfield 24, 3) := by decide +kernel
theorem dX8_moveTo_12 : decode cX8_moveTo 12 = .ok (.getfield 120, 3) := by decide +kernel
theorem dX8_moveTo_15 : decode cX8_moveTo 15 = .ok (.iload_n 1, 1) := by decide +kernel
theorem dX8_moveTo_16 : decode cX8_moveTo 16 = .ok (.iload_n 2, 1) := by decide +kernel
theorem dX8_moveTo_17 : decode cX8_moveTo 17 = .ok (.iastore, 1) := by decide +kernel
theorem dX8_moveTo_18 : decode cX8_moveTo 18 = .ok (.aload_n 0, 1) := by decide +kernel
theorem dX8_moveTo_19 : decode cX8_moveTo 19 = .ok (.getfield 33, 3) := by decide +kernel
theorem dX8_moveTo_22 : decode cX8_moveTo 22 = .ok (.aload_n 0, 1) := by decide +kernel
theorem dX8_moveTo_23 : decode cX8_moveTo 23 = .ok (.getfield 24, 3) := by decide +kernel
theorem dX8_moveTo_26 : decode cX8_moveTo 26 = .ok (.getfield 140, 3) := by decide +kernel
theorem dX8_moveTo_29 : decode cX8_moveTo 29 = .ok (.iconst 3, 1) := by decide +kernel
theorem dX8_moveTo_30 : decode cX8_moveTo 30 = .ok (.iload_n 1, 1) := by decide +kernel
theorem dX8_moveTo_31 : decode cX8_moveTo 31 = .ok (.iload_n 2, 1) := by decide +kernel
theorem dX8_moveTo_32 : decode cX8_moveTo 32 = .ok (.invokevirtual 176, 3) := by decide +kernel
theorem dX8_moveTo_35 : decode cX8_moveTo 35 = .ok (.return_, 1) := by decide +kernel
theorem dX8_learn_0 : decode cX8_learn 0 = .ok (.aload_n 0, 1) := by decide +kernel
theorem dX8_learn_1 : decode cX8_learn 1 = .ok (.iload_n 1, 1) := by decide +kernel
theorem dX8_learn_2 : decode cX8_learn 2 = .ok (.invokevirtual 99, 3) := by decide +kernel
theorem dX8_learn_5 : decode cX8_learn 5 = .ok (.ifCond .eq 43, 3) := by decide +kernel
theorem dX8_learn_8 : decode cX8_learn 8 = .ok (.aload_n 0, 1) := by decide +kernel
theorem dX8_learn_9 : decode cX8_learn 9 = .ok (.iload_n 2, 1) := by decide +kernel
theorem dX8_learn_10 : decode cX8_learn 10 = .ok (.invokevirtual 129, 3) := by decide +kernel
theorem dX8_learn_13 : decode cX8_learn 13 = .ok (.ifCond .eq 35, 3) := by decide +kernel
theorem dX8_learn_16 : decode cX8_learn 16 = .ok (.aload_n 0, 1) := by decide +kernel
theorem dX8_learn_17 : decode cX8_learn 17 = .ok (.getfield 24, 3) := by decide +kernel
theorem dX8_learn_20 : decode cX8_learn 20 = .ok (.getfield 103, 3) := by decide +kernel
theorem dX8_learn_23 : decode cX8_learn 23 = .ok (.iload_n 1, 1) := by decide +kernel
theorem dX8_learn_24 : decode cX8_learn 24 = .ok (.dup2, 1) := by decide +kernel
theorem dX8_learn_25 : decode cX8_learn 25 = .ok (.iaload, 1) := by decide +kernel
theorem dX8_learn_26 : decode cX8_learn 26 = .ok (.iconst 1, 1) := by decide +kernel
theorem dX8_learn_27 : decode cX8_learn 27 = .ok (.iload_n 2, 1) := by decide +kernel
theorem dX8_learn_28 : decode cX8_learn 28 = .ok (.ishl, 1) := by decide +kernel
theorem dX8_learn_29 : decode cX8_learn 29 = .ok (.ior, 1) := by decide +kernel
theorem dX8_learn_30 : decode cX8_learn 30 = .ok (.iastore, 1) := by decide +kernel
theorem dX8_learn_31 : decode cX8_learn 31 = .ok (.aload_n 0, 1) := by decide +kernel
theorem dX8_learn_32 : decode cX8_learn 32 = .ok (.getfield 33, 3) := by decide +kernel
theorem dX8_learn_35 : decode cX8_learn 35 = .ok (.aload_n 0, 1) := by decide +kernel
theorem dX8_learn_36 : decode cX8_learn 36 = .ok (.getfield 24, 3) := by decide +kernel
theorem dX8_learn_39 : decode cX8_learn 39 = .ok (.getfield 140, 3) := by decide +kernel
theorem dX8_learn_42 : decode cX8_learn 42 = .ok (.iconst 4, 1) := by decide +kernel
theorem dX8_learn_43 : decode cX8_learn 43 = .ok (.iload_n 1, 1) := by decide +kernel
theorem dX8_learn_44 : decode cX8_learn 44 = .ok (.iload_n 2, 1) := by decide +kernel
theorem dX8_learn_45 : decode cX8_learn 45 = .ok (.invokevirtual 176, 3) := by decide +kernel
theorem dX8_learn_48 : decode cX8_learn 48 = .ok (.return_, 1) := by decide +kernel
theorem dX8_revive_0 : decode cX8_revive 0 = .ok (.aload_n 0, 1) := by decide +kernel
theorem dX8_revive_1 : decode cX8_revive 1 = .ok (.iload_n 1, 1) := by decide +kernel
theorem dX8_revive_2 : decode cX8_revive 2 = .ok (.invokevirtual 129, 3) := by decide +kernel
theorem dX8_revive_5 : decode cX8_revive 5 = .ok (.ifCond .eq 47, 3) := by decide +kernel
theorem dX8_revive_8 : decode cX8_revive 8 = .ok (.aload_n 0, 1) := by decide +kernel
theorem dX8_revive_9 : decode cX8_revive 9 = .ok (.getfield 24, 3) := by decide +kernel
theorem dX8_revive_12 : decode cX8_revive 12 = .ok (.dup, 1) := by decide +kernel
theorem dX8_revive_13 : decode cX8_revive 13 = .ok (.getfield 92, 3) := by decide +kernel
theorem dX8_revive_16 : decode cX8_revive 16 = .ok (.iconst 1, 1) := by decide +kernel
theorem dX8_revive_17 : decode cX8_revive 17 = .ok (.iload_n 1, 1) := by decide +kernel
theorem dX8_revive_18 : decode cX8_revive 18 = .ok (.ishl, 1) := by decide +kernel
theorem dX8_revive_19 : decode cX8_revive 19 = .ok (.iconst (-1), 1) := by decide +kernel
theorem dX8_revive_20 : decode cX8_revive 20 = .ok (.ixor, 1) := by decide +kernel
theorem dX8_revive_21 : decode cX8_revive 21 = .ok (.iand, 1) := by decide +kernel
theorem dX8_revive_22 : decode cX8_revive 22 = .ok (.putfield 92, 3) := by decide +kernel
theorem dX8_revive_25 : decode cX8_revive 25 = .ok (.aload_n 0, 1) := by decide +kernel
theorem dX8_revive_26 : decode cX8_revive 26 = .ok (.getfield 24, 3) := by decide +kernel
theorem dX8_revive_29 : decode cX8_revive 29 = .ok (.getfield 114, 3) := by decide +kernel
theorem dX8_revive_32 : decode cX8_revive 32 = .ok (.iload_n 1, 1) := by decide +kernel
theorem dX8_revive_33 : decode cX8_revive 33 = .ok (.iconst 0, 1) := by decide +kernel
theorem dX8_revive_34 : decode cX8_revive 34 = .ok (.iastore, 1) := by decide +kernel
theorem dX8_revive_35 : decode cX8_revive 35 = .ok (.aload_n 0, 1) := by decide +kernel
theorem dX8_revive_36 : decode cX8_revive 36 = .ok (.getfield 33, 3) := by decide +kernel
theorem dX8_revive_39 : decode cX8_revive 39 = .ok (.aload_n 0, 1) := by decide +kernel
theorem dX8_revive_40 : decode cX8_revive 40 = .ok (.getfield 24, 3) := by decide +kernel
theorem dX8_revive_43 : decode cX8_revive 43 = .ok (.getfield 140, 3) := by decide +kernel
theorem dX8_revive_46 : decode cX8_revive 46 = .ok (.iconst 5, 1) := by decide +kernel
theorem dX8_revive_47 : decode cX8_revive 47 = .ok (.iconst (-1), 1) := by decide +kernel
theorem dX8_revive_48 : decode cX8_revive 48 = .ok (.iload_n 1, 1) := by decide +kernel
theorem dX8_revive_49 : decode cX8_revive 49 = .ok (.invokevirtual 176, 3) := by decide +kernel
theorem dX8_revive_52 : decode cX8_revive 52 = .ok (.return_, 1) := by decide +kernel
theorem dX8_passDay_0 : decode cX8_passDay 0 = .ok (.aload_n 0, 1) := by decide +kernel
theorem dX8_passDay_1 : decode cX8_passDay 1 = .ok (.invokevirtual 180, 3) := by decide +kernel
theorem dX8_passDay_4 : decode cX8_passDay 4 = .ok (.aload_n 0, 1) := by decide +kernel
theorem dX8_passDay_5 : decode cX8_passDay 5 = .ok (.getfield 70, 3) := by decide +kernel
theorem dX8_passDay_8 : decode cX8_passDay 8 = .ok (.ifCond .le 7, 3) := by decide +kernel
theorem dX8_passDay_11 : decode cX8_passDay 11 = .ok (.aload_n 0, 1) := by decide +kernel
theorem dX8_passDay_12 : decode cX8_passDay 12 = .ok (.invokevirtual 183, 3) := by decide +kernel
theorem dX8_passDay_15 : decode cX8_passDay 15 = .ok (.aload_n 0, 1) := by decide +kernel
theorem dX8_passDay_16 : decode cX8_passDay 16 = .ok (.invokevirtual 186, 3) := by decide +kernel
theorem dX8_passDay_19 : decode cX8_passDay 19 = .ok (.iconst 0, 1) := by decide +kernel
theorem dX8_passDay_20 : decode cX8_passDay 20 = .ok (.istore_n 1, 1) := by decide +kernel
theorem dX8_passDay_21 : decode cX8_passDay 21 = .ok (.iload_n 1, 1) := by decide +kernel
theorem dX8_passDay_22 : decode cX8_passDay 22 = .ok (.aload_n 0, 1) := by decide +kernel
theorem dX8_passDay_23 : decode cX8_passDay 23 = .ok (.getfield 67, 3) := by decide +kernel
theorem dX8_passDay_26 : decode cX8_passDay 26 = .ok (.if_icmp .ge 15, 3) := by decide +kernel
theorem dX8_passDay_29 : decode cX8_passDay 29 = .ok (.aload_n 0, 1) := by decide +kernel
theorem dX8_passDay_30 : decode cX8_passDay 30 = .ok (.iload_n 1, 1) := by decide +kernel
theorem dX8_passDay_31 : decode cX8_passDay 31 = .ok (.iconst 5, 1) := by decide +kernel
theorem dX8_passDay_32 : decode cX8_passDay 32 = .ok (.invokevirtual 189, 3) := by decide +kernel
theorem dX8_passDay_35 : decode cX8_passDay 35 = .ok (.iinc 1 1, 3) := by decide +kernel
theorem dX8_passDay_38 : decode cX8_passDay 38 = .ok (.goto (-17), 3) := by decide +kernel
theorem dX8_passDay_41 : decode cX8_passDay 41 = .ok (.aload_n 0, 1) := by decide +kernel
theorem dX8_passDay_42 : decode cX8_passDay 42 = .ok (.getfield 24, 3) := by decide +kernel
theorem dX8_passDay_45 : decode cX8_passDay 45 = .ok (.dup, 1) := by decide +kernel
theorem dX8_passDay_46 : decode cX8_passDay 46 = .ok (.getfield 140, 3) := by decide +kernel
theorem dX8_passDay_49 : decode cX8_passDay 49 = .ok (.iconst 1, 1) := by decide +kernel
theorem dX8_passDay_50 : decode cX8_passDay 50 = .ok (.iadd, 1) := by decide +kernel
theorem dX8_passDay_51 : decode cX8_passDay 51 = .ok (.putfield 140, 3) := by decide +kernel
theorem dX8_passDay_54 : decode cX8_passDay 54 = .ok (.return_, 1) := by decide +kernel
theorem dX8_walk_0 : decode cX8_walk 0 = .ok (.iconst 0, 1) := by decide +kernel
theorem dX8_walk_1 : decode cX8_walk 1 = .ok (.istore_n 1, 1) := by decide +kernel
theorem dX8_walk_2 : decode cX8_walk 2 = .ok (.iload_n 1, 1) := by decide +kernel
theorem dX8_walk_3 : decode cX8_walk 3 = .ok (.aload_n 0, 1) := by decide +kernel
theorem dX8_walk_4 : decode cX8_walk 4 = .ok (.getfield 37, 3) := by decide +kernel
theorem dX8_walk_7 : decode cX8_walk 7 = .ok (.getfield 192, 3) := by decide +kernel
theorem dX8_walk_10 : decode cX8_walk 10 = .ok (.if_icmp .ge 140, 3) := by decide +kernel
theorem dX8_walk_13 : decode cX8_walk 13 = .ok (.aload_n 0, 1) := by decide +kernel
theorem dX8_walk_14 : decode cX8_walk 14 = .ok (.getfield 37, 3) := by decide +kernel
theorem dX8_walk_17 : decode cX8_walk 17 = .ok (.iload_n 1, 1) := by decide +kernel
theorem dX8_walk_18 : decode cX8_walk 18 = .ok (.iconst 0, 1) := by decide +kernel
theorem dX8_walk_19 : decode cX8_walk 19 = .ok (.invokevirtual 195, 3) := by decide +kernel
theorem dX8_walk_22 : decode cX8_walk 22 = .ok (.aload_n 0, 1) := by decide +kernel
theorem dX8_walk_23 : decode cX8_walk 23 = .ok (.getfield 24, 3) := by decide +kernel
theorem dX8_walk_26 : decode cX8_walk 26 = .ok (.getfield 140, 3) := by decide +kernel
theorem dX8_walk_29 : decode cX8_walk 29 = .ok (.if_icmp .eq 6, 3) := by decide +kernel
theorem dX8_walk_32 : decode cX8_walk 32 = .ok (.goto 112, 3) := by decide +kernel
theorem dX8_walk_35 : decode cX8_walk 35 = .ok (.aload_n 0, 1) := by decide +kernel
theorem dX8_walk_36 : decode cX8_walk 36 = .ok (.getfield 37, 3) := by decide +kernel
theorem dX8_walk_39 : decode cX8_walk 39 = .ok (.iload_n 1, 1) := by decide +kernel
theorem dX8_walk_40 : decode cX8_walk 40 = .ok (.iconst 1, 1) := by decide +kernel
theorem dX8_walk_41 : decode cX8_walk 41 = .ok (.invokevirtual 195, 3) := by decide +kernel
theorem dX8_walk_44 : decode cX8_walk 44 = .ok (.istore_n 2, 1) := by decide +kernel
theorem dX8_walk_45 : decode cX8_walk 45 = .ok (.aload_n 0, 1) := by decide +kernel
theorem dX8_walk_46 : decode cX8_walk 46 = .ok (.getfield 37, 3) := by decide +kernel
theorem dX8_walk_49 : decode cX8_walk 49 = .ok (.iload_n 1, 1) := by decide +kernel
theorem dX8_walk_50 : decode cX8_walk 50 = .ok (.iconst 2, 1) := by decide +kernel
theorem dX8_walk_51 : decode cX8_walk 51 = .ok (.invokevirtual 195, 3) := by decide +kernel
theorem dX8_walk_54 : decode cX8_walk 54 = .ok (.istore_n 3, 1) := by decide +kernel
theorem dX8_walk_55 : decode cX8_walk 55 = .ok (.aload_n 0, 1) := by decide +kernel
theorem dX8_walk_56 : decode cX8_walk 56 = .ok (.getfield 37, 3) := by decide +kernel
theorem dX8_walk_59 : decode cX8_walk 59 = .ok (.iload_n 1, 1) := by decide +kernel
theorem dX8_walk_60 : decode cX8_walk 60 = .ok (.iconst 3, 1) := by decide +kernel
theorem dX8_walk_61 : decode cX8_walk 61 = .ok (.invokevirtual 195, 3) := by decide +kernel
theorem dX8_walk_64 : decode cX8_walk 64 = .ok (.istore 4, 2) := by decide +kernel
theorem dX8_walk_66 : decode cX8_walk 66 = .ok (.iload_n 3, 1) := by decide +kernel
theorem dX8_walk_67 : decode cX8_walk 67 = .ok (.bipush 119, 2) := by decide +kernel
theorem dX8_walk_69 : decode cX8_walk 69 = .ok (.if_icmp .ne 13, 3) := by decide +kernel
theorem dX8_walk_72 : decode cX8_walk 72 = .ok (.aload_n 0, 1) := by decide +kernel
theorem dX8_walk_73 : decode cX8_walk 73 = .ok (.iload_n 2, 1) := by decide +kernel
theorem dX8_walk_74 : decode cX8_walk 74 = .ok (.bipush 20, 2) := by decide +kernel
theorem dX8_walk_76 : decode cX8_walk 76 = .ok (.invokevirtual 189, 3) := by decide +kernel
theorem dX8_walk_79 : decode cX8_walk 79 = .ok (.goto 65, 3) := by decide +kernel
theorem dX8_walk_82 : decode cX8_walk 82 = .ok (.iload_n 3, 1) := by decide +kernel
theorem dX8_walk_83 : decode cX8_walk 83 = .ok (.bipush 118, 2) := by decide +kernel
theorem dX8_walk_85 : decode cX8_walk 85 = .ok (.if_icmp .ne 24, 3) := by decide +kernel
theorem dX8_walk_88 : decode cX8_walk 88 = .ok (.aload_n 0, 1) := by decide +kernel
theorem dX8_walk_89 : decode cX8_walk 89 = .ok (.iload_n 2, 1) := by decide +kernel
theorem dX8_walk_90 : decode cX8_walk 90 = .ok (.iload 4, 2) := by decide +kernel
theorem dX8_walk_92 : decode cX8_walk 92 = .ok (.invokevirtual 198, 3) := by decide +kernel
theorem dX8_walk_95 : decode cX8_walk 95 = .ok (.ifCond .eq 14, 3) := by decide +kernel
theorem dX8_walk_98 : decode cX8_walk 98 = .ok (.aload_n 0, 1) := by decide +kernel
theorem dX8_walk_99 : decode cX8_walk 99 = .ok (.iload_n 2, 1) := by decide +kernel
theorem dX8_walk_100 : decode cX8_walk 100 = .ok (.iload 4, 2) := by decide +kernel
theorem dX8_walk_102 : decode cX8_walk 102 = .ok (.invokevirtual 201, 3) := by decide +kernel
theorem dX8_walk_105 : decode cX8_walk 105 = .ok (.pop, 1) := by decide +kernel
theorem dX8_walk_106 : decode cX8_walk 106 = .ok (.goto 38, 3) := by decide +kernel
theorem dX8_walk_109 : decode cX8_walk 109 = .ok (.iload_n 3, 1) := by decide +kernel
theorem dX8_walk_110 : decode cX8_walk 110 = .ok (.bipush 117, 2) := by decide +kernel
theorem dX8_walk_112 : decode cX8_walk 112 = .ok (.if_icmp .ne 32, 3) := by decide +kernel
theorem dX8_walk_115 : decode cX8_walk 115 = .ok (.aload_n 0, 1) := by decide +kernel
theorem dX8_walk_116 : decode cX8_walk 116 = .ok (.iload_n 2, 1) := by decide +kernel
theorem dX8_walk_117 : decode cX8_walk 117 = .ok (.invokevirtual 99, 3) := by decide +kernel
theorem dX8_walk_120 : decode cX8_walk 120 = .ok (.ifCond .eq 24, 3) := by decide +kernel
theorem dX8_walk_123 : decode cX8_walk 123 = .ok (.aload_n 0, 1) := by decide +kernel
theorem dX8_walk_124 : decode cX8_walk 124 = .ok (.getfield 24, 3) := by decide +kernel
theorem dX8_walk_127 : decode cX8_walk 127 = .ok (.getfield 120, 3) := by decide +kernel
theorem dX8_walk_130 : decode cX8_walk 130 = .ok (.iload_n 2, 1) := by decide +kernel
theorem dX8_walk_131 : decode cX8_walk 131 = .ok (.iaload, 1) := by decide +kernel
theorem dX8_walk_132 : decode cX8_walk 132 = .ok (.iload 4, 2) := by decide +kernel
theorem dX8_walk_134 : decode cX8_walk 134 = .ok (.if_icmp .eq 10, 3) := by decide +kernel
theorem dX8_walk_137 : decode cX8_walk 137 = .ok (.aload_n 0, 1) := by decide +kernel
theorem dX8_walk_138 : decode cX8_walk 138 = .ok (.iload_n 2, 1) := by decide +kernel
theorem dX8_walk_139 : decode cX8_walk 139 = .ok (.iload 4, 2) := by decide +kernel
theorem dX8_walk_141 : decode cX8_walk 141 = .ok (.invokevirtual 204, 3) := by decide +kernel
theorem dX8_walk_144 : decode cX8_walk 144 = .ok (.iinc 1 1, 3) := by decide +kernel
theorem dX8_walk_147 : decode cX8_walk 147 = .ok (.goto (-145), 3) := by decide +kernel
theorem dX8_walk_150 : decode cX8_walk 150 = .ok (.return_, 1) := by decide +kernel
theorem dX8_breathe_0 : decode cX8_breathe 0 = .ok (.aload_n 0, 1) := by decide +kernel
theorem dX8_breathe_1 : decode cX8_breathe 1 = .ok (.iload_n 1, 1) := by decide +kernel
theorem dX8_breathe_2 : decode cX8_breathe 2 = .ok (.invokevirtual 99, 3) := by decide +kernel
theorem dX8_breathe_5 : decode cX8_breathe 5 = .ok (.ifCond .eq 28, 3) := by decide +kernel
theorem dX8_breathe_8 : decode cX8_breathe 8 = .ok (.aload_n 0, 1) := by decide +kernel
theorem dX8_breathe_9 : decode cX8_breathe 9 = .ok (.getfield 24, 3) := by decide +kernel
theorem dX8_breathe_12 : decode cX8_breathe 12 = .ok (.getfield 123, 3) := by decide +kernel
theorem dX8_breathe_15 : decode cX8_breathe 15 = .ok (.iload_n 1, 1) := by decide +kernel
theorem dX8_breathe_16 : decode cX8_breathe 16 = .ok (.bipush 99, 2) := by decide +kernel
theorem dX8_breathe_18 : decode cX8_breathe 18 = .ok (.aload_n 0, 1) := by decide +kernel
theorem dX8_breathe_19 : decode cX8_breathe 19 = .ok (.getfield 24, 3) := by decide +kernel
theorem dX8_breathe_22 : decode cX8_breathe 22 = .ok (.getfield 123, 3) := by decide +kernel
theorem dX8_breathe_25 : decode cX8_breathe 25 = .ok (.iload_n 1, 1) := by decide +kernel
theorem dX8_breathe_26 : decode cX8_breathe 26 = .ok (.iaload, 1) := by decide +kernel
theorem dX8_breathe_27 : decode cX8_breathe 27 = .ok (.iload_n 2, 1) := by decide +kernel
theorem dX8_breathe_28 : decode cX8_breathe 28 = .ok (.iadd, 1) := by decide +kernel
theorem dX8_breathe_29 : decode cX8_breathe 29 = .ok (.invokestatic 151, 3) := by decide +kernel
theorem dX8_breathe_32 : decode cX8_breathe 32 = .ok (.iastore, 1) := by decide +kernel
theorem dX8_breathe_33 : decode cX8_breathe 33 = .ok (.return_, 1) := by decide +kernel
theorem dX8_chatter_0 : decode cX8_chatter 0 = .ok (.iconst 0, 1) := by decide +kernel
theorem dX8_chatter_1 : decode cX8_chatter 1 = .ok (.istore_n 1, 1) := by decide +kernel
theorem dX8_chatter_2 : decode cX8_chatter 2 = .ok (.iload_n 1, 1) := by decide +kernel
theorem dX8_chatter_3 : decode cX8_chatter 3 = .ok (.aload_n 0, 1) := by decide +kernel
theorem dX8_chatter_4 : decode cX8_chatter 4 = .ok (.getfield 67, 3) := by decide +kernel
theorem dX8_chatter_7 : decode cX8_chatter 7 = .ok (.if_icmp .ge 58, 3) := by decide +kernel
theorem dX8_chatter_10 : decode cX8_chatter 10 = .ok (.aload_n 0, 1) := by decide +kernel
theorem dX8_chatter_11 : decode cX8_chatter 11 = .ok (.sipush 1000, 3) := by decide +kernel
theorem dX8_chatter_14 : decode cX8_chatter 14 = .ok (.invokevirtual 207, 3) := by decide +kernel
theorem dX8_chatter_17 : decode cX8_chatter 17 = .ok (.aload_n 0, 1) := by decide +kernel
theorem dX8_chatter_18 : decode cX8_chatter 18 = .ok (.getfield 70, 3) := by decide +kernel
theorem dX8_chatter_21 : decode cX8_chatter 21 = .ok (.if_icmp .ge 38, 3) := by decide +kernel
theorem dX8_chatter_24 : decode cX8_chatter 24 = .ok (.aload_n 0, 1) := by decide +kernel
theorem dX8_chatter_25 : decode cX8_chatter 25 = .ok (.aload_n 0, 1) := by decide +kernel
theorem dX8_chatter_26 : decode cX8_chatter 26 = .ok (.getfield 24, 3) := by decide +kernel
theorem dX8_chatter_29 : decode cX8_chatter 29 = .ok (.getfield 103, 3) := by decide +kernel
theorem dX8_chatter_32 : decode cX8_chatter 32 = .ok (.iload_n 1, 1) := by decide +kernel
theorem dX8_chatter_33 : decode cX8_chatter 33 = .ok (.iaload, 1) := by decide +kernel
theorem dX8_chatter_34 : decode cX8_chatter 34 = .ok (.aload_n 0, 1) := by decide +kernel
theorem dX8_chatter_35 : decode cX8_chatter 35 = .ok (.invokevirtual 106, 3) := by decide +kernel
theorem dX8_chatter_38 : decode cX8_chatter 38 = .ok (.iand, 1) := by decide +kernel
theorem dX8_chatter_39 : decode cX8_chatter 39 = .ok (.invokevirtual 210, 3) := by decide +kernel
theorem dX8_chatter_42 : decode cX8_chatter 42 = .ok (.istore_n 2, 1) := by decide +kernel
theorem dX8_chatter_43 : decode cX8_chatter 43 = .ok (.aload_n 0, 1) := by decide +kernel
theorem dX8_chatter_44 : decode cX8_chatter 44 = .ok (.iload_n 1, 1) := by decide +kernel
theorem dX8_chatter_45 : decode cX8_chatter 45 = .ok (.iload_n 2, 1) := by decide +kernel
theorem dX8_chatter_46 : decode cX8_chatter 46 = .ok (.invokevirtual 198, 3) := by decide +kernel
theorem dX8_chatter_49 : decode cX8_chatter 49 = .ok (.ifCond .eq 10, 3) := by decide +kernel
theorem dX8_chatter_52 : decode cX8_chatter 52 = .ok (.aload_n 0, 1) := by decide +kernel
theorem dX8_chatter_53 : decode cX8_chatter 53 = .ok (.iload_n 1, 1) := by decide +kernel
theorem dX8_chatter_54 : decode cX8_chatter 54 = .ok (.iload_n 2, 1) := by decide +kernel
theorem dX8_chatter_55 : decode cX8_chatter 55 = .ok (.invokevirtual 201, 3) := by decide +kernel
theorem dX8_chatter_58 : decode cX8_chatter 58 = .ok (.pop, 1) := by decide +kernel
theorem dX8_chatter_59 : decode cX8_chatter 59 = .ok (.iinc 1 1, 3) := by decide +kernel
theorem dX8_chatter_62 : decode cX8_chatter 62 = .ok (.goto (-60), 3) := by decide +kernel
theorem dX8_chatter_65 : decode cX8_chatter 65 = .ok (.return_, 1) := by decide +kernel
theorem dX8_draw_0 : decode cX8_draw 0 = .ok (.aload_n 0, 1) := by decide +kernel
theorem dX8_draw_1 : decode cX8_draw 1 = .ok (.getfield 24, 3) := by decide +kernel
theorem dX8_draw_4 : decode cX8_draw 4 = .ok (.aload_n 0, 1) := by decide +kernel
theorem dX8_draw_5 : decode cX8_draw 5 = .ok (.getfield 24, 3) := by decide +kernel
theorem dX8_draw_8 : decode cX8_draw 8 = .ok (.getfield 213, 3) := by decide +kernel
theorem dX8_draw_11 : decode cX8_draw 11 = .ok (.ldc 216, 2) := by decide +kernel
theorem dX8_draw_13 : decode cX8_draw 13 = .ok (.imul, 1) := by decide +kernel
theorem dX8_draw_14 : decode cX8_draw 14 = .ok (.ldc 217, 2) := by decide +kernel
theorem dX8_draw_16 : decode cX8_draw 16 = .ok (.iadd, 1) := by decide +kernel
theorem dX8_draw_17 : decode cX8_draw 17 = .ok (.putfield 213, 3) := by decide +kernel
theorem dX8_draw_20 : decode cX8_draw 20 = .ok (.iload_n 1, 1) := by decide +kernel
theorem dX8_draw_21 : decode cX8_draw 21 = .ok (.iconst 1, 1) := by decide +kernel
theorem dX8_draw_22 : decode cX8_draw 22 = .ok (.if_icmp .ge 7, 3) := by decide +kernel
theorem dX8_draw_25 : decode cX8_draw 25 = .ok (.iconst 0, 1) := by decide +kernel
theorem dX8_draw_26 : decode cX8_draw 26 = .ok (.goto 15, 3) := by decide +kernel
theorem dX8_draw_29 : decode cX8_draw 29 = .ok (.aload_n 0, 1) := by decide +kernel
theorem dX8_draw_30 : decode cX8_draw 30 = .ok (.getfield 24, 3) := by decide +kernel
theorem dX8_draw_33 : decode cX8_draw 33 = .ok (.getfield 213, 3) := by decide +kernel
theorem dX8_draw_36 : decode cX8_draw 36 = .ok (.bipush 8, 2) := by decide +kernel
theorem dX8_draw_38 : decode cX8_draw 38 = .ok (.iushr, 1) := by decide +kernel
theorem dX8_draw_39 : decode cX8_draw 39 = .ok (.iload_n 1, 1) := by decide +kernel
theorem dX8_draw_40 : decode cX8_draw 40 = .ok (.irem, 1) := by decide +kernel
theorem dX8_draw_41 : decode cX8_draw 41 = .ok (.ireturn, 1) := by decide +kernel
theorem dX8_longestUnsaid_0 : decode cX8_longestUnsaid 0 = .ok (.iconst (-1), 1) := by decide +kernel
theorem dX8_longestUnsaid_1 : decode cX8_longestUnsaid 1 = .ok (.istore_n 2, 1) := by decide +kernel
theorem dX8_longestUnsaid_2 : decode cX8_longestUnsaid 2 = .ok (.iconst 0, 1) := by decide +kernel
theorem dX8_longestUnsaid_3 : decode cX8_longestUnsaid 3 = .ok (.istore_n 3, 1) := by decide +kernel
theorem dX8_longestUnsaid_4 : decode cX8_longestUnsaid 4 = .ok (.iload_n 3, 1) := by decide +kernel
theorem dX8_longestUnsaid_5 : decode cX8_longestUnsaid 5 = .ok (.aload_n 0, 1) := by decide +kernel
theorem dX8_longestUnsaid_6 : decode cX8_longestUnsaid 6 = .ok (.getfield 63, 3) := by decide +kernel
theorem dX8_longestUnsaid_9 : decode cX8_longestUnsaid 9 = .ok (.if_icmp .ge 45, 3) := by decide +kernel
theorem dX8_longestUnsaid_12 : decode cX8_longestUnsaid 12 = .ok (.iload_n 1, 1) := by decide +kernel
theorem dX8_longestUnsaid_13 : decode cX8_longestUnsaid 13 = .ok (.iload_n 3, 1) := by decide +kernel
theorem dX8_longestUnsaid_14 : decode cX8_longestUnsaid 14 = .ok (.invokestatic 95, 3) := by decide +kernel
theorem dX8_longestUnsaid_17 : decode cX8_longestUnsaid 17 = .ok (.ifCond .eq 31, 3) := by decide +kernel
theorem dX8_longestUnsaid_20 : decode cX8_longestUnsaid 20 = .ok (.iload_n 2, 1) := by decide +kernel
theorem dX8_longestUnsaid_21 : decode cX8_longestUnsaid 21 = .ok (.iconst (-1), 1) := by decide +kernel
theorem dX8_longestUnsaid_22 : decode cX8_longestUnsaid 22 = .ok (.if_icmp .eq 24, 3) := by decide +kernel
theorem dX8_longestUnsaid_25 : decode cX8_longestUnsaid 25 = .ok (.aload_n 0, 1) := by decide +kernel
theorem dX8_longestUnsaid_26 : decode cX8_longestUnsaid 26 = .ok (.getfield 24, 3) := by decide +kernel
theorem dX8_longestUnsaid_29 : decode cX8_longestUnsaid 29 = .ok (.getfield 114, 3) := by decide +kernel
theorem dX8_longestUnsaid_32 : decode cX8_longestUnsaid 32 = .ok (.iload_n 3, 1) := by decide +kernel
theorem dX8_longestUnsaid_33 : decode cX8_longestUnsaid 33 = .ok (.iaload, 1) := by decide +kernel
theorem dX8_longestUnsaid_34 : decode cX8_longestUnsaid 34 = .ok (.aload_n 0, 1) := by decide +kernel
theorem dX8_longestUnsaid_35 : decode cX8_longestUnsaid 35 = .ok (.getfield 24, 3) := by decide +kernel
theorem dX8_longestUnsaid_38 : decode cX8_longestUnsaid 38 = .ok (.getfield 114, 3) := by decide +kernel
theorem dX8_longestUnsaid_41 : decode cX8_longestUnsaid 41 = .ok (.iload_n 2, 1) := by decide +kernel
theorem dX8_longestUnsaid_42 : decode cX8_longestUnsaid 42 = .ok (.iaload, 1) := by decide +kernel
theorem dX8_longestUnsaid_43 : decode cX8_longestUnsaid 43 = .ok (.if_icmp .le 5, 3) := by decide +kernel
theorem dX8_longestUnsaid_46 : decode cX8_longestUnsaid 46 = .ok (.iload_n 3, 1) := by decide +kernel
theorem dX8_longestUnsaid_47 : decode cX8_longestUnsaid 47 = .ok (.istore_n 2, 1) := by decide +kernel
theorem dX8_longestUnsaid_48 : decode cX8_longestUnsaid 48 = .ok (.iinc 3 1, 3) := by decide +kernel
theorem dX8_longestUnsaid_51 : decode cX8_longestUnsaid 51 = .ok (.goto (-47), 3) := by decide +kernel
theorem dX8_longestUnsaid_54 : decode cX8_longestUnsaid 54 = .ok (.iload_n 2, 1) := by decide +kernel
theorem dX8_longestUnsaid_55 : decode cX8_longestUnsaid 55 = .ok (.ireturn, 1) := by decide +kernel
theorem dX8_age_0 : decode cX8_age 0 = .ok (.iconst 0, 1) := by decide +kernel
theorem dX8_age_1 : decode cX8_age 1 = .ok (.istore_n 1, 1) := by decide +kernel
theorem dX8_age_2 : decode cX8_age 2 = .ok (.iload_n 1, 1) := by decide +kernel
theorem dX8_age_3 : decode cX8_age 3 = .ok (.aload_n 0, 1) := by decide +kernel
theorem dX8_age_4 : decode cX8_age 4 = .ok (.getfield 63, 3) := by decide +kernel
theorem dX8_age_7 : decode cX8_age 7 = .ok (.if_icmp .ge 71, 3) := by decide +kernel
theorem dX8_age_10 : decode cX8_age 10 = .ok (.aload_n 0, 1) := by decide +kernel
theorem dX8_age_11 : decode cX8_age 11 = .ok (.iload_n 1, 1) := by decide +kernel
theorem dX8_age_12 : decode cX8_age 12 = .ok (.invokevirtual 163, 3) := by decide +kernel
theorem dX8_age_15 : decode cX8_age 15 = .ok (.ifCond .eq 6, 3) := by decide +kernel
theorem dX8_age_18 : decode cX8_age 18 = .ok (.goto 54, 3) := by decide +kernel
theorem dX8_age_21 : decode cX8_age 21 = .ok (.aload_n 0, 1) := by decide +kernel
theorem dX8_age_22 : decode cX8_age 22 = .ok (.getfield 24, 3) := by decide +kernel
theorem dX8_age_25 : decode cX8_age 25 = .ok (.getfield 114, 3) := by decide +kernel
theorem dX8_age_28 : decode cX8_age 28 = .ok (.iload_n 1, 1) := by decide +kernel
theorem dX8_age_29 : decode cX8_age 29 = .ok (.sipush 9999, 3) := by decide +kernel
theorem dX8_age_32 : decode cX8_age 32 = .ok (.aload_n 0, 1) := by decide +kernel
theorem dX8_age_33 : decode cX8_age 33 = .ok (.getfield 24, 3) := by decide +kernel
theorem dX8_age_36 : decode cX8_age 36 = .ok (.getfield 114, 3) := by decide +kernel
theorem dX8_age_39 : decode cX8_age 39 = .ok (.iload_n 1, 1) := by decide +kernel
theorem dX8_age_40 : decode cX8_age 40 = .ok (.iaload, 1) := by decide +kernel
theorem dX8_age_41 : decode cX8_age 41 = .ok (.iconst 1, 1) := by decide +kernel
theorem dX8_age_42 : decode cX8_age 42 = .ok (.iadd, 1) := by decide +kernel
theorem dX8_age_43 : decode cX8_age 43 = .ok (.invokestatic 151, 3) := by decide +kernel
theorem dX8_age_46 : decode cX8_age 46 = .ok (.iastore, 1) := by decide +kernel
theorem dX8_age_47 : decode cX8_age 47 = .ok (.aload_n 0, 1) := by decide +kernel
theorem dX8_age_48 : decode cX8_age 48 = .ok (.getfield 24, 3) := by decide +kernel
theorem dX8_age_51 : decode cX8_age 51 = .ok (.getfield 114, 3) := by decide +kernel
theorem dX8_age_54 : decode cX8_age 54 = .ok (.iload_n 1, 1) := by decide +kernel
theorem dX8_age_55 : decode cX8_age 55 = .ok (.iaload, 1) := by decide +kernel
theorem dX8_age_56 : decode cX8_age 56 = .ok (.aload_n 0, 1) := by decide +kernel
theorem dX8_age_57 : decode cX8_age 57 = .ok (.bipush 104, 2) := by decide +kernel
theorem dX8_age_59 : decode cX8_age 59 = .ok (.iload_n 1, 1) := by decide +kernel
theorem dX8_age_60 : decode cX8_age 60 = .ok (.iconst 0, 1) := by decide +kernel
theorem dX8_age_61 : decode cX8_age 61 = .ok (.invokevirtual 166, 3) := by decide +kernel
theorem dX8_age_64 : decode cX8_age 64 = .ok (.if_icmp .lt 8, 3) := by decide +kernel
theorem dX8_age_67 : decode cX8_age 67 = .ok (.aload_n 0, 1) := by decide +kernel
theorem dX8_age_68 : decode cX8_age 68 = .ok (.iload_n 1, 1) := by decide +kernel
theorem dX8_age_69 : decode cX8_age 69 = .ok (.invokevirtual 218, 3) := by decide +kernel
theorem dX8_age_72 : decode cX8_age 72 = .ok (.iinc 1 1, 3) := by decide +kernel
theorem dX8_age_75 : decode cX8_age 75 = .ok (.goto (-73), 3) := by decide +kernel
theorem dX8_age_78 : decode cX8_age 78 = .ok (.return_, 1) := by decide +kernel
theorem dX8_lapse_0 : decode cX8_lapse 0 = .ok (.aload_n 0, 1) := by decide +kernel
theorem dX8_lapse_1 : decode cX8_lapse 1 = .ok (.getfield 24, 3) := by decide +kernel
theorem dX8_lapse_4 : decode cX8_lapse 4 = .ok (.dup, 1) := by decide +kernel
theorem dX8_lapse_5 : decode cX8_lapse 5 = .ok (.getfield 92, 3) := by decide +kernel
theorem dX8_lapse_8 : decode cX8_lapse 8 = .ok (.iconst 1, 1) := by decide +kernel
theorem dX8_lapse_9 : decode cX8_lapse 9 = .ok (.iload_n 1, 1) := by decide +kernel
theorem dX8_lapse_10 : decode cX8_lapse 10 = .ok (.ishl, 1) := by decide +kernel
theorem dX8_lapse_11 : decode cX8_lapse 11 = .ok (.ior, 1) := by decide +kernel
theorem dX8_lapse_12 : decode cX8_lapse 12 = .ok (.putfield 92, 3) := by decide +kernel
theorem dX8_lapse_15 : decode cX8_lapse 15 = .ok (.iconst 0, 1) := by decide +kernel
theorem dX8_lapse_16 : decode cX8_lapse 16 = .ok (.istore_n 2, 1) := by decide +kernel
theorem dX8_lapse_17 : decode cX8_lapse 17 = .ok (.iload_n 2, 1) := by decide +kernel
theorem dX8_lapse_18 : decode cX8_lapse 18 = .ok (.aload_n 0, 1) := by decide +kernel
theorem dX8_lapse_19 : decode cX8_lapse 19 = .ok (.getfield 67, 3) := by decide +kernel
theorem dX8_lapse_22 : decode cX8_lapse 22 = .ok (.if_icmp .ge 26, 3) := by decide +kernel
theorem dX8_lapse_25 : decode cX8_lapse 25 = .ok (.aload_n 0, 1) := by decide +kernel
theorem dX8_lapse_26 : decode cX8_lapse 26 = .ok (.getfield 24, 3) := by decide +kernel
theorem dX8_lapse_29 : decode cX8_lapse 29 = .ok (.getfield 103, 3) := by decide +kernel
theorem dX8_lapse_32 : decode cX8_lapse 32 = .ok (.iload_n 2, 1) := by decide +kernel
theorem dX8_lapse_33 : decode cX8_lapse 33 = .ok (.dup2, 1) := by decide +kernel
theorem dX8_lapse_34 : decode cX8_lapse 34 = .ok (.iaload, 1) := by decide +kernel
theorem dX8_lapse_35 : decode cX8_lapse 35 = .ok (.iconst 1, 1) := by decide +kernel
theorem dX8_lapse_36 : decode cX8_lapse 36 = .ok (.iload_n 1, 1) := by decide +kernel
theorem dX8_lapse_37 : decode cX8_lapse 37 = .ok (.ishl, 1) := by decide +kernel
theorem dX8_lapse_38 : decode cX8_lapse 38 = .ok (.iconst (-1), 1) := by decide +kernel
theorem dX8_lapse_39 : decode cX8_lapse 39 = .ok (.ixor, 1) := by decide +kernel
theorem dX8_lapse_40 : decode cX8_lapse 40 = .ok (.iand, 1) := by decide +kernel
theorem dX8_lapse_41 : decode cX8_lapse 41 = .ok (.iastore, 1) := by decide +kernel
theorem dX8_lapse_42 : decode cX8_lapse 42 = .ok (.iinc 2 1, 3) := by decide +kernel
theorem dX8_lapse_45 : decode cX8_lapse 45 = .ok (.goto (-28), 3) := by decide +kernel
theorem dX8_lapse_48 : decode cX8_lapse 48 = .ok (.aload_n 0, 1) := by decide +kernel
theorem dX8_lapse_49 : decode cX8_lapse 49 = .ok (.getfield 33, 3) := by decide +kernel
theorem dX8_lapse_52 : decode cX8_lapse 52 = .ok (.aload_n 0, 1) := by decide +kernel
theorem dX8_lapse_53 : decode cX8_lapse 53 = .ok (.getfield 24, 3) := by decide +kernel
theorem dX8_lapse_56 : decode cX8_lapse 56 = .ok (.getfield 140, 3) := by decide +kernel
theorem dX8_lapse_59 : decode cX8_lapse 59 = .ok (.iconst 2, 1) := by decide +kernel
theorem dX8_lapse_60 : decode cX8_lapse 60 = .ok (.iconst (-1), 1) := by decide +kernel
theorem dX8_lapse_61 : decode cX8_lapse 61 = .ok (.iload_n 1, 1) := by decide +kernel
theorem dX8_lapse_62 : decode cX8_lapse 62 = .ok (.invokevirtual 176, 3) := by decide +kernel
theorem dX8_lapse_65 : decode cX8_lapse 65 = .ok (.return_, 1) := by decide +kernel
theorem dX9_init_0 : decode cX9_init 0 = .ok (.aload_n 0, 1) := by decide +kernel
theorem dX9_init_1 : decode cX9_init 1 = .ok (.invokespecial 3, 3) := by decide +kernel
theorem dX9_init_4 : decode cX9_init 4 = .ok (.aload_n 0, 1) := by decide +kernel
theorem dX9_init_5 : decode cX9_init 5 = .ok (.new 9, 3) := by decide +kernel
theorem dX9_init_8 : decode cX9_init 8 = .ok (.dup, 1) := by decide +kernel
theorem dX9_init_9 : decode cX9_init 9 = .ok (.invokespecial 11, 3) := by decide +kernel
theorem dX9_init_12 : decode cX9_init 12 = .ok (.putfield 12, 3) := by decide +kernel
theorem dX9_init_15 : decode cX9_init 15 = .ok (.aload_n 0, 1) := by decide +kernel
theorem dX9_init_16 : decode cX9_init 16 = .ok (.new 9, 3) := by decide +kernel
theorem dX9_init_19 : decode cX9_init 19 = .ok (.dup, 1) := by decide +kernel
theorem dX9_init_20 : decode cX9_init 20 = .ok (.invokespecial 11, 3) := by decide +kernel
theorem dX9_init_23 : decode cX9_init 23 = .ok (.putfield 16, 3) := by decide +kernel
theorem dX9_init_26 : decode cX9_init 26 = .ok (.aload_n 0, 1) := by decide +kernel
theorem dX9_init_27 : decode cX9_init 27 = .ok (.new 9, 3) := by decide +kernel
theorem dX9_init_30 : decode cX9_init 30 = .ok (.dup, 1) := by decide +kernel
theorem dX9_init_31 : decode cX9_init 31 = .ok (.invokespecial 11, 3) := by decide +kernel
theorem dX9_init_34 : decode cX9_init 34 = .ok (.putfield 19, 3) := by decide +kernel
theorem dX9_init_37 : decode cX9_init 37 = .ok (.aload_n 0, 1) := by decide +kernel
theorem dX9_init_38 : decode cX9_init 38 = .ok (.new 22, 3) := by decide +kernel
theorem dX9_init_41 : decode cX9_init 41 = .ok (.dup, 1) := by decide +kernel
theorem dX9_init_42 : decode cX9_init 42 = .ok (.invokespecial 24, 3) := by decide +kernel
theorem dX9_init_45 : decode cX9_init 45 = .ok (.putfield 25, 3) := by decide +kernel
theorem dX9_init_48 : decode cX9_init 48 = .ok (.aload_n 0, 1) := by decide +kernel
theorem dX9_init_49 : decode cX9_init 49 = .ok (.new 29, 3) := by decide +kernel
theorem dX9_init_52 : decode cX9_init 52 = .ok (.dup, 1) := by decide +kernel
theorem dX9_init_53 : decode cX9_init 53 = .ok (.invokespecial 31, 3) := by decide +kernel
theorem dX9_init_56 : decode cX9_init 56 = .ok (.putfield 32, 3) := by decide +kernel
theorem dX9_init_59 : decode cX9_init 59 = .ok (.aload_n 0, 1) := by decide +kernel
theorem dX9_init_60 : decode cX9_init 60 = .ok (.new 36, 3) := by decide +kernel
theorem dX9_init_63 : decode cX9_init 63 = .ok (.dup, 1) := by decide +kernel
theorem dX9_init_64 : decode cX9_init 64 = .ok (.invokespecial 38, 3) := by decide +kernel
theorem dX9_init_67 : decode cX9_init 67 = .ok (.putfield 39, 3) := by decide +kernel
theorem dX9_init_70 : decode cX9_init 70 = .ok (.aload_n 0, 1) := by decide +kernel
theorem dX9_init_71 : decode cX9_init 71 = .ok (.iconst 0, 1) := by decide +kernel
theorem dX9_init_72 : decode cX9_init 72 = .ok (.putfield 43, 3) := by decide +kernel
theorem dX9_init_75 : decode cX9_init 75 = .ok (.return_, 1) := by decide +kernel
theorem dX9_state_0 : decode cX9_state 0 = .ok (.aload_n 0, 1) := by decide +kernel
theorem dX9_state_1 : decode cX9_state 1 = .ok (.getfield 12, 3) := by decide +kernel
theorem dX9_state_4 : decode cX9_state 4 = .ok (.getfield 47, 3) := by decide +kernel
theorem dX9_state_7 : decode cX9_state 7 = .ok (.getfield 51, 3) := by decide +kernel
theorem dX9_state_10 : decode cX9_state 10 = .ok (.istore_n 2, 1) := by decide +kernel
theorem dX9_state_11 : decode cX9_state 11 = .ok (.aload_n 0, 1) := by decide +kernel
theorem dX9_state_12 : decode cX9_state 12 = .ok (.getfield 12, 3) := by decide +kernel
theorem dX9_state_15 : decode cX9_state 15 = .ok (.getfield 47, 3) := by decide +kernel
theorem dX9_state_18 : decode cX9_state 18 = .ok (.iload_n 1, 1) := by decide +kernel
theorem dX9_state_19 : decode cX9_state 19 = .ok (.putfield 51, 3) := by decide +kernel
theorem dX9_state_22 : decode cX9_state 22 = .ok (.aload_n 0, 1) := by decide +kernel
theorem dX9_state_23 : decode cX9_state 23 = .ok (.getfield 25, 3) := by decide +kernel
theorem dX9_state_26 : decode cX9_state 26 = .ok (.invokevirtual 57, 3) := by decide +kernel
theorem dX9_state_29 : decode cX9_state 29 = .ok (.iload_n 2, 1) := by decide +kernel
theorem dX9_state_30 : decode cX9_state 30 = .ok (.ireturn, 1) := by decide +kernel
theorem dX9_word_0 : decode cX9_word 0 = .ok (.iload_n 1, 1) := by decide +kernel
theorem dX9_word_1 : decode cX9_word 1 = .ok (.iconst 1, 1) := by decide +kernel
theorem dX9_word_2 : decode cX9_word 2 = .ok (.if_icmp .lt 21, 3) := by decide +kernel
theorem dX9_word_5 : decode cX9_word 5 = .ok (.iload_n 1, 1) := by decide +kernel
theorem dX9_word_6 : decode cX9_word 6 = .ok (.bipush 20, 2) := by decide +kernel
theorem dX9_word_8 : decode cX9_word 8 = .ok (.if_icmp .gt 15, 3) := by decide +kernel
theorem dX9_word_11 : decode cX9_word 11 = .ok (.aload_n 0, 1) := by decide +kernel
theorem dX9_word_12 : decode cX9_word 12 = .ok (.getfield 12, 3) := by decide +kernel
theorem dX9_word_15 : decode cX9_word 15 = .ok (.getfield 60, 3) := by decide +kernel
theorem dX9_word_18 : decode cX9_word 18 = .ok (.bipush 14, 2) := by decide +kernel
theorem dX9_word_20 : decode cX9_word 20 = .ok (.if_icmp .lt 5, 3) := by decide +kernel
theorem dX9_word_23 : decode cX9_word 23 = .ok (.iconst (-1), 1) := by decide +kernel
theorem dX9_word_24 : decode cX9_word 24 = .ok (.ireturn, 1) := by decide +kernel
theorem dX9_word_25 : decode cX9_word 25 = .ok (.aload_n 0, 1) := by decide +kernel
theorem dX9_word_26 : decode cX9_word 26 = .ok (.getfield 25, 3) := by decide +kernel
theorem dX9_word_29 : decode cX9_word 29 = .ok (.invokevirtual 57, 3) := by decide +kernel
theorem dX9_word_32 : decode cX9_word 32 = .ok (.aload_n 0, 1) := by decide +kernel
theorem dX9_word_33 : decode cX9_word 33 = .ok (.getfield 12, 3) := by decide +kernel
theorem dX9_word_36 : decode cX9_word 36 = .ok (.iload_n 1, 1) := by decide +kernel
theorem dX9_word_37 : decode cX9_word 37 = .ok (.invokevirtual 63, 3) := by decide +kernel
theorem dX9_word_40 : decode cX9_word 40 = .ok (.ireturn, 1) := by decide +kernel
theorem dX9_person_0 : decode cX9_person 0 = .ok (.iload_n 1, 1) := by decide +kernel
theorem dX9_person_1 : decode cX9_person 1 = .ok (.invokestatic 67, 3) := by decide +kernel
theorem dX9_person_4 : decode cX9_person 4 = .ok (.ifCond .eq 15, 3) := by decide +kernel
theorem dX9_person_7 : decode cX9_person 7 = .ok (.aload_n 0, 1) := by decide +kernel
theorem dX9_person_8 : decode cX9_person 8 = .ok (.getfield 12, 3) := by decide +kernel
theorem dX9_person_11 : decode cX9_person 11 = .ok (.getfield 71, 3) := by decide +kernel
theorem dX9_person_14 : decode cX9_person 14 = .ok (.bipush 10, 2) := by decide +kernel
theorem dX9_person_16 : decode cX9_person 16 = .ok (.if_icmp .lt 5, 3) := by decide +kernel
theorem dX9_person_19 : decode cX9_person 19 = .ok (.iconst (-1), 1) := by decide +kernel
theorem dX9_person_20 : decode cX9_person 20 = .ok (.ireturn, 1) := by decide +kernel
theorem dX9_person_21 : decode cX9_person 21 = .ok (.aload_n 0, 1) := by decide +kernel
theorem dX9_person_22 : decode cX9_person 22 = .ok (.getfield 25, 3) := by decide +kernel
theorem dX9_person_25 : decode cX9_person 25 = .ok (.invokevirtual 57, 3) := by decide +kernel
theorem dX9_person_28 : decode cX9_person 28 = .ok (.aload_n 0, 1) := by decide +kernel
theorem dX9_person_29 : decode cX9_person 29 = .ok (.getfield 12, 3) := by decide +kernel
theorem dX9_person_32 : decode cX9_person 32 = .ok (.iload_n 1, 1) := by decide +kernel
theorem dX9_person_33 : decode cX9_person 33 = .ok (.invokevirtual 74, 3) := by decide +kernel
theorem dX9_person_36 : decode cX9_person 36 = .ok (.ireturn, 1) := by decide +kernel
theorem dX9_set_0 : decode cX9_set 0 = .ok (.iload_n 1, 1) := by decide +kernel
theorem dX9_set_1 : decode cX9_set 1 = .ok (.ifCond .ne 24, 3) := by decide +kernel
theorem dX9_set_4 : decode cX9_set 4 = .ok (.iload_n 3, 1) := by decide +kernel
theorem dX9_set_5 : decode cX9_set 5 = .ok (.sipush 1000, 3) := by decide +kernel
theorem dX9_set_8 : decode cX9_set 8 = .ok (.invokestatic 77, 3) := by decide +kernel
theorem dX9_set_11 : decode cX9_set 11 = .ok (.ifCond .eq 14, 3) := by decide +kernel
theorem dX9_set_14 : decode cX9_set 14 = .ok (.aload_n 0, 1) := by decide +kernel
theorem dX9_set_15 : decode cX9_set 15 = .ok (.getfield 12, 3) := by decide +kernel
theorem dX9_set_18 : decode cX9_set 18 = .ok (.iload_n 3, 1) := by decide +kernel
theorem dX9_set_19 : decode cX9_set 19 = .ok (.putfield 81, 3) := by decide +kernel
theorem dX9_set_22 : decode cX9_set 22 = .ok (.goto 88, 3) := by decide +kernel
theorem dX9_set_25 : decode cX9_set 25 = .ok (.iload_n 1, 1) := by decide +kernel
theorem dX9_set_26 : decode cX9_set 26 = .ok (.iconst 1, 1) := by decide +kernel
theorem dX9_set_27 : decode cX9_set 27 = .ok (.if_icmp .ne 39, 3) := by decide +kernel
theorem dX9_set_30 : decode cX9_set 30 = .ok (.aload_n 0, 1) := by decide +kernel
theorem dX9_set_31 : decode cX9_set 31 = .ok (.getfield 12, 3) := by decide +kernel
theorem dX9_set_34 : decode cX9_set 34 = .ok (.iload_n 2, 1) := by decide +kernel
theorem dX9_set_35 : decode cX9_set 35 = .ok (.invokevirtual 84, 3) := by decide +kernel
theorem dX9_set_38 : decode cX9_set 38 = .ok (.ifCond .eq 28, 3) := by decide +kernel
theorem dX9_set_41 : decode cX9_set 41 = .ok (.iload_n 3, 1) := by decide +kernel
theorem dX9_set_42 : decode cX9_set 42 = .ok (.bipush 99, 2) := by decide +kernel
theorem dX9_set_44 : decode cX9_set 44 = .ok (.invokestatic 77, 3) := by decide +kernel
theorem dX9_set_47 : decode cX9_set 47 = .ok (.ifCond .eq 19, 3) := by decide +kernel
theorem dX9_set_50 : decode cX9_set 50 = .ok (.aload_n 0, 1) := by decide +kernel
theorem dX9_set_51 : decode cX9_set 51 = .ok (.getfield 12, 3) := by decide +kernel
theorem dX9_set_54 : decode cX9_set 54 = .ok (.getfield 47, 3) := by decide +kernel
theorem dX9_set_57 : decode cX9_set 57 = .ok (.getfield 87, 3) := by decide +kernel
theorem dX9_set_60 : decode cX9_set 60 = .ok (.iload_n 2, 1) := by decide +kernel
theorem dX9_set_61 : decode cX9_set 61 = .ok (.iload_n 3, 1) := by decide +kernel
theorem dX9_set_62 : decode cX9_set 62 = .ok (.iastore, 1) := by decide +kernel
theorem dX9_set_63 : decode cX9_set 63 = .ok (.goto 47, 3) := by decide +kernel
theorem dX9_set_66 : decode cX9_set 66 = .ok (.iload_n 1, 1) := by decide +kernel
theorem dX9_set_67 : decode cX9_set 67 = .ok (.iconst 2, 1) := by decide +kernel
theorem dX9_set_68 : decode cX9_set 68 = .ok (.if_icmp .ne 40, 3) := by decide +kernel
theorem dX9_set_71 : decode cX9_set 71 = .ok (.aload_n 0, 1) := by decide +kernel
theorem dX9_set_72 : decode cX9_set 72 = .ok (.getfield 12, 3) := by decide +kernel
theorem dX9_set_75 : decode cX9_set 75 = .ok (.iload_n 2, 1) := by decide +kernel
theorem dX9_set_76 : decode cX9_set 76 = .ok (.invokevirtual 91, 3) := by decide +kernel
theorem dX9_set_79 : decode cX9_set 79 = .ok (.ifCond .eq 29, 3) := by decide +kernel
theorem dX9_set_82 : decode cX9_set 82 = .ok (.iload_n 3, 1) := by decide +kernel
theorem dX9_set_83 : decode cX9_set 83 = .ok (.sipush 9999, 3) := by decide +kernel
theorem dX9_set_86 : decode cX9_set 86 = .ok (.invokestatic 77, 3) := by decide +kernel
theorem dX9_set_89 : decode cX9_set 89 = .ok (.ifCond .eq 19, 3) := by decide +kernel
theorem dX9_set_92 : decode cX9_set 92 = .ok (.aload_n 0, 1) := by decide +kernel
theorem dX9_set_93 : decode cX9_set 93 = .ok (.getfield 12, 3) := by decide +kernel
theorem dX9_set_96 : decode cX9_set 96 = .ok (.getfield 47, 3) := by decide +kernel
theorem dX9_set_99 : decode cX9_set 99 = .ok (.getfield 94, 3) := by decide +kernel
theorem dX9_set_102 : decode cX9_set 102 = .ok (.iload_n 2, 1) := by decide +kernel
theorem dX9_set_103 : decode cX9_set 103 = .ok (.iload_n 3, 1) := by decide +kernel
theorem dX9_set_104 : decode cX9_set 104 = .ok (.iastore, 1) := by decide +kernel
theorem dX9_set_105 : decode cX9_set 105 = .ok (.goto 5, 3) := by decide +kernel
theorem dX9_set_108 : decode cX9_set 108 = .ok (.iconst 0, 1) := by decide +kernel
theorem dX9_set_109 : decode cX9_set 109 = .ok (.ireturn, 1) := by decide +kernel
theorem dX9_set_110 : decode cX9_set 110 = .ok (.aload_n 0, 1) := by decide +kernel
theorem dX9_set_111 : decode cX9_set 111 = .ok (.getfield 25, 3) := by decide +kernel
theorem dX9_set_114 : decode cX9_set 114 = .ok (.invokevirtual 57, 3) := by decide +kernel
theorem dX9_set_117 : decode cX9_set 117 = .ok (.iconst 1, 1) := by decide +kernel
theorem dX9_set_118 : decode cX9_set 118 = .ok (.ireturn, 1) := by decide +kernel
theorem dX9_isUpTo_0 : decode cX9_isUpTo 0 = .ok (.iload_n 0, 1) := by decide +kernel
theorem dX9_isUpTo_1 : decode cX9_isUpTo 1 = .ok (.ifCond .lt 12, 3) := by decide +kernel
theorem dX9_isUpTo_4 : decode cX9_isUpTo 4 = .ok (.iload_n 0, 1) := by decide +kernel
theorem dX9_isUpTo_5 : decode cX9_isUpTo 5 = .ok (.iload_n 1, 1) := by decide +kernel
theorem dX9_isUpTo_6 : decode cX9_isUpTo 6 = .ok (.if_icmp .gt 7, 3) := by decide +kernel
theorem dX9_isUpTo_9 : decode cX9_isUpTo 9 = .ok (.iconst 1, 1) := by decide +kernel
theorem dX9_isUpTo_10 : decode cX9_isUpTo 10 = .ok (.goto 4, 3) := by decide +kernel
theorem dX9_isUpTo_13 : decode cX9_isUpTo 13 = .ok (.iconst 0, 1) := by decide +kernel
theorem dX9_isUpTo_14 : decode cX9_isUpTo 14 = .ok (.ireturn, 1) := by decide +kernel
theorem dX9_kin_0 : decode cX9_kin 0 = .ok (.aload_n 0, 1) := by decide +kernel
theorem dX9_kin_1 : decode cX9_kin 1 = .ok (.getfield 12, 3) := by decide +kernel
theorem dX9_kin_4 : decode cX9_kin 4 = .ok (.iload_n 1, 1) := by decide +kernel
theorem dX9_kin_5 : decode cX9_kin 5 = .ok (.invokevirtual 91, 3) := by decide +kernel
theorem dX9_kin_8 : decode cX9_kin 8 = .ok (.ifCond .eq 19, 3) := by decide +kernel
theorem dX9_kin_11 : decode cX9_kin 11 = .ok (.aload_n 0, 1) := by decide +kernel
theorem dX9_kin_12 : decode cX9_kin 12 = .ok (.getfield 12, 3) := by decide +kernel
theorem dX9_kin_15 : decode cX9_kin 15 = .ok (.iload_n 2, 1) := by decide +kernel
theorem dX9_kin_16 : decode cX9_kin 16 = .ok (.invokevirtual 91, 3) := by decide +kernel
theorem dX9_kin_19 : decode cX9_kin 19 = .ok (.ifCond .eq 8, 3) := by decide +kernel
theorem dX9_kin_22 : decode cX9_kin 22 = .ok (.iload_n 1, 1) := by decide +kernel
theorem dX9_kin_23 : decode cX9_kin 23 = .ok (.iload_n 2, 1) := by decide +kernel
theorem dX9_kin_24 : decode cX9_kin 24 = .ok (.if_icmp .ne 5, 3) := by decide +kernel
theorem dX9_kin_27 : decode cX9_kin 27 = .ok (.iconst 0, 1) := by decide +kernel
theorem dX9_kin_28 : decode cX9_kin 28 = .ok (.ireturn, 1) := by decide +kernel
theorem dX9_kin_29 : decode cX9_kin 29 = .ok (.iload_n 3, 1) := by decide +kernel
theorem dX9_kin_30 : decode cX9_kin 30 = .ok (.ifCond .eq 36, 3) := by decide +kernel
theorem dX9_kin_33 : decode cX9_kin 33 = .ok (.aload_n 0, 1) := by decide +kernel
theorem dX9_kin_34 : decode cX9_kin 34 = .ok (.getfield 12, 3) := by decide +kernel
theorem dX9_kin_37 : decode cX9_kin 37 = .ok (.getfield 97, 3) := by decide +kernel
theorem dX9_kin_40 : decode cX9_kin 40 = .ok (.iload_n 1, 1) := by decide +kernel
theorem dX9_kin_41 : decode cX9_kin 41 = .ok (.dup2, 1) := by decide +kernel
theorem dX9_kin_42 : decode cX9_kin 42 = .ok (.iaload, 1) := by decide +kernel
theorem dX9_kin_43 : decode cX9_kin 43 = .ok (.iconst 1, 1) := by decide +kernel
theorem dX9_kin_44 : decode cX9_kin 44 = .ok (.iload_n 2, 1) := by decide +kernel
theorem dX9_kin_45 : decode cX9_kin 45 = .ok (.ishl, 1) := by decide +kernel
theorem dX9_kin_46 : decode cX9_kin 46 = .ok (.ior, 1) := by decide +kernel
theorem dX9_kin_47 : decode cX9_kin 47 = .ok (.iastore, 1) := by decide +kernel
theorem dX9_kin_48 : decode cX9_kin 48 = .ok (.aload_n 0, 1) := by decide +kernel
theorem dX9_kin_49 : decode cX9_kin 49 = .ok (.getfield 12, 3) := by decide +kernel
theorem dX9_kin_52 : decode cX9_kin 52 = .ok (.getfield 97, 3) := by decide +kernel
theorem dX9_kin_55 : decode cX9_kin 55 = .ok (.iload_n 2, 1) := by decide +kernel
theorem dX9_kin_56 : decode cX9_kin 56 = .ok (.dup2, 1) := by decide +kernel
theorem dX9_kin_57 : decode cX9_kin 57 = .ok (.iaload, 1) := by decide +kernel
theorem dX9_kin_58 : decode cX9_kin 58 = .ok (.iconst 1, 1) := by decide +kernel
theorem dX9_kin_59 : decode cX9_kin 59 = .ok (.iload_n 1, 1) := by decide +kernel
theorem dX9_kin_60 : decode cX9_kin 60 = .ok (.ishl, 1) := by decide +kernel
theorem dX9_kin_61 : decode cX9_kin 61 = .ok (.ior, 1) := by decide +kernel
theorem dX9_kin_62 : decode cX9_kin 62 = .ok (.iastore, 1) := by decide +kernel
theorem dX9_kin_63 : decode cX9_kin 63 = .ok (.goto 37, 3) := by decide +kernel
theorem dX9_kin_66 : decode cX9_kin 66 = .ok (.aload_n 0, 1) := by decide +kernel
theorem dX9_kin_67 : decode cX9_kin 67 = .ok (.getfield 12, 3) := by decide +kernel
theorem dX9_kin_70 : decode cX9_kin 70 = .ok (.getfield 97, 3) := by decide +kernel
theorem dX9_kin_73 : decode cX9_kin 73 = .ok (.iload_n 1, 1) := by decide +kernel
theorem dX9_kin_74 : decode cX9_kin 74 = .ok (.dup2, 1) := by decide +kernel
theorem dX9_kin_75 : decode cX9_kin 75 = .ok (.iaload, 1) := by decide +kernel
theorem dX9_kin_76 : decode cX9_kin 76 = .ok (.iconst 1, 1) := by decide +kernel
theorem dX9_kin_77 : decode cX9_kin 77 = .ok (.iload_n 2, 1) := by decide +kernel
theorem dX9_kin_78 : decode cX9_kin 78 = .ok (.ishl, 1) := by decide +kernel
theorem dX9_kin_79 : decode cX9_kin 79 = .ok (.iconst (-1), 1) := by decide +kernel
theorem dX9_kin_80 : decode cX9_kin 80 = .ok (.ixor, 1) := by decide +kernel
theorem dX9_kin_81 : decode cX9_kin 81 = .ok (.iand, 1) := by decide +kernel
theorem dX9_kin_82 : decode cX9_kin 82 = .ok (.iastore, 1) := by decide +kernel
theorem dX9_kin_83 : decode cX9_kin 83 = .ok (.aload_n 0, 1) := by decide +kernel
theorem dX9_kin_84 : decode cX9_kin 84 = .ok (.getfield 12, 3) := by decide +kernel
theorem dX9_kin_87 : decode cX9_kin 87 = .ok (.getfield 97, 3) := by decide +kernel
theorem dX9_kin_90 : decode cX9_kin 90 = .ok (.iload_n 2, 1) := by decide +kernel
theorem dX9_kin_91 : decode cX9_kin 91 = .ok (.dup2, 1) := by decide +kernel
theorem dX9_kin_92 : decode cX9_kin 92 = .ok (.iaload, 1) := by decide +kernel
theorem dX9_kin_93 : decode cX9_kin 93 = .ok (.iconst 1, 1) := by decide +kernel
theorem dX9_kin_94 : decode cX9_kin 94 = .ok (.iload_n 1, 1) := by decide +kernel
theorem dX9_kin_95 : decode cX9_kin 95 = .ok (.ishl, 1) := by decide +kernel
theorem dX9_kin_96 : decode cX9_kin 96 = .ok (.iconst (-1), 1) := by decide +kernel
theorem dX9_kin_97 : decode cX9_kin 97 = .ok (.ixor, 1) := by decide +kernel
theorem dX9_kin_98 : decode cX9_kin 98 = .ok (.iand, 1) := by decide +kernel
theorem dX9_kin_99 : decode cX9_kin 99 = .ok (.iastore, 1) := by decide +kernel
theorem dX9_kin_100 : decode cX9_kin 100 = .ok (.aload_n 0, 1) := by decide +kernel
theorem dX9_kin_101 : decode cX9_kin 101 = .ok (.getfield 25, 3) := by decide +kernel
theorem dX9_kin_104 : decode cX9_kin 104 = .ok (.invokevirtual 57, 3) := by decide +kernel
theorem dX9_kin_107 : decode cX9_kin 107 = .ok (.iconst 1, 1) := by decide +kernel
theorem dX9_kin_108 : decode cX9_kin 108 = .ok (.ireturn, 1) := by decide +kernel
theorem dX9_miles_0 : decode cX9_miles 0 = .ok (.iload_n 1, 1) := by decide +kernel
theorem dX9_miles_1 : decode cX9_miles 1 = .ok (.invokestatic 67, 3) := by decide +kernel
theorem dX9_miles_4 : decode cX9_miles 4 = .ok (.ifCond .eq 24, 3) := by decide +kernel
theorem dX9_miles_7 : decode cX9_miles 7 = .ok (.iload_n 2, 1) := by decide +kernel
theorem dX9_miles_8 : decode cX9_miles 8 = .ok (.invokestatic 67, 3) := by decide +kernel
theorem dX9_miles_11 : decode cX9_miles 11 = .ok (.ifCond .eq 17, 3) := by decide +kernel
theorem dX9_miles_14 : decode cX9_miles 14 = .ok (.iload_n 1, 1) := by decide +kernel
theorem dX9_miles_15 : decode cX9_miles 15 = .ok (.iload_n 2, 1) := by decide +kernel
theorem dX9_miles_16 : decode cX9_miles 16 = .ok (.if_icmp .eq 12, 3) := by decide +kernel
theorem dX9_miles_19 : decode cX9_miles 19 = .ok (.iload_n 3, 1) := by decide +kernel
theorem dX9_miles_20 : decode cX9_miles 20 = .ok (.bipush 99, 2) := by decide +kernel
theorem dX9_miles_22 : decode cX9_miles 22 = .ok (.invokestatic 77, 3) := by decide +kernel
theorem dX9_miles_25 : decode cX9_miles 25 = .ok (.ifCond .ne 5, 3) := by decide +kernel
theorem dX9_miles_28 : decode cX9_miles 28 = .ok (.iconst 0, 1) := by decide +kernel
theorem dX9_miles_29 : decode cX9_miles 29 = .ok (.ireturn, 1) := by decide +kernel
theorem dX9_miles_30 : decode cX9_miles 30 = .ok (.aload_n 0, 1) := by decide +kernel
theorem dX9_miles_31 : decode cX9_miles 31 = .ok (.getfield 12, 3) := by decide +kernel
theorem dX9_miles_34 : decode cX9_miles 34 = .ok (.getfield 100, 3) := by decide +kernel
theorem dX9_miles_37 : decode cX9_miles 37 = .ok (.iload_n 1, 1) := by decide +kernel
theorem dX9_miles_38 : decode cX9_miles 38 = .ok (.bipush 10, 2) := by decide +kernel
theorem dX9_miles_40 : decode cX9_miles 40 = .ok (.imul, 1) := by decide +kernel
theorem dX9_miles_41 : decode cX9_miles 41 = .ok (.iload_n 2, 1) := by decide +kernel
theorem dX9_miles_42 : decode cX9_miles 42 = .ok (.iadd, 1) := by decide +kernel
theorem dX9_miles_43 : decode cX9_miles 43 = .ok (.iload_n 3, 1) := by decide +kernel
theorem dX9_miles_44 : decode cX9_miles 44 = .ok (.iastore, 1) := by decide +kernel
theorem dX9_miles_45 : decode cX9_miles 45 = .ok (.aload_n 0, 1) := by decide +kernel
theorem dX9_miles_46 : decode cX9_miles 46 = .ok (.getfield 12, 3) := by decide +kernel
theorem dX9_miles_49 : decode cX9_miles 49 = .ok (.getfield 100, 3) := by decide +kernel
theorem dX9_miles_52 : decode cX9_miles 52 = .ok (.iload_n 2, 1) := by decide +kernel
theorem dX9_miles_53 : decode cX9_miles 53 = .ok (.bipush 10, 2) := by decide +kernel
theorem dX9_miles_55 : decode cX9_miles 55 = .ok (.imul, 1) := by decide +kernel
theorem dX9_miles_56 : decode cX9_miles 56 = .ok (.iload_n 1, 1) := by decide +kernel
theorem dX9_miles_57 : decode cX9_miles 57 = .ok (.iadd, 1) := by decide +kernel
theorem dX9_miles_58 : decode cX9_miles 58 = .ok (.iload_n 3, 1) := by decide +kernel
theorem dX9_miles_59 : decode cX9_miles 59 = .ok (.iastore, 1) := by decide +kernel
theorem dX9_miles_60 : decode cX9_miles 60 = .ok (.aload_n 0, 1) := by decide +kernel
theorem dX9_miles_61 : decode cX9_miles 61 = .ok (.getfield 25, 3) := by decide +kernel
theorem dX9_miles_64 : decode cX9_miles 64 = .ok (.invokevirtual 57, 3) := by decide +kernel
theorem dX9_miles_67 : decode cX9_miles 67 = .ok (.iconst 1, 1) := by decide +kernel
theorem dX9_miles_68 : decode cX9_miles 68 = .ok (.ireturn, 1) := by decide +kernel
theorem dX9_say_0 : decode cX9_say 0 = .ok (.aload_n 0, 1) := by decide +kernel
theorem dX9_say_1 : decode cX9_say 1 = .ok (.getfield 12, 3) := by decide +kernel
theorem dX9_say_4 : decode cX9_say 4 = .ok (.iload_n 1, 1) := by decide +kernel
theorem dX9_say_5 : decode cX9_say 5 = .ok (.iload_n 2, 1) := by decide +kernel
theorem dX9_say_6 : decode cX9_say 6 = .ok (.invokevirtual 103, 3) := by decide +kernel
theorem dX9_say_9 : decode cX9_say 9 = .ok (.ifCond .ne 5, 3) := by decide +kernel
theorem dX9_say_12 : decode cX9_say 12 = .ok (.iconst (-1), 1) := by decide +kernel
theorem dX9_say_13 : decode cX9_say 13 = .ok (.ireturn, 1) := by decide +kernel
theorem dX9_say_14 : decode cX9_say 14 = .ok (.aload_n 0, 1) := by decide +kernel
theorem dX9_say_15 : decode cX9_say 15 = .ok (.getfield 25, 3) := by decide +kernel
theorem dX9_say_18 : decode cX9_say 18 = .ok (.aload_n 0, 1) := by decide +kernel
theorem dX9_say_19 : decode cX9_say 19 = .ok (.getfield 12, 3) := by decide +kernel
theorem dX9_say_22 : decode cX9_say 22 = .ok (.invokevirtual 106, 3) := by decide +kernel
theorem dX9_say_25 : decode cX9_say 25 = .ok (.aload_n 0, 1) := by decide +kernel
theorem dX9_say_26 : decode cX9_say 26 = .ok (.getfield 12, 3) := by decide +kernel
theorem dX9_say_29 : decode cX9_say 29 = .ok (.iload_n 1, 1) := by decide +kernel
theorem dX9_say_30 : decode cX9_say 30 = .ok (.iload_n 2, 1) := by decide +kernel
theorem dX9_say_31 : decode cX9_say 31 = .ok (.invokevirtual 110, 3) := by decide +kernel
theorem dX9_say_34 : decode cX9_say 34 = .ok (.ifCond .eq 7, 3) := by decide +kernel
theorem dX9_say_37 : decode cX9_say 37 = .ok (.iconst 1, 1) := by decide +kernel
theorem dX9_say_38 : decode cX9_say 38 = .ok (.goto 4, 3) := by decide +kernel
theorem dX9_say_41 : decode cX9_say 41 = .ok (.iconst 0, 1) := by decide +kernel
theorem dX9_say_42 : decode cX9_say 42 = .ok (.ireturn, 1) := by decide +kernel
theorem dX9_move_0 : decode cX9_move 0 = .ok (.aload_n 0, 1) := by decide +kernel
theorem dX9_move_1 : decode cX9_move 1 = .ok (.getfield 12, 3) := by decide +kernel
theorem dX9_move_4 : decode cX9_move 4 = .ok (.iload_n 1, 1) := by decide +kernel
theorem dX9_move_5 : decode cX9_move 5 = .ok (.invokevirtual 84, 3) := by decide +kernel
theorem dX9_move_8 : decode cX9_move 8 = .ok (.ifCond .eq 26, 3) := by decide +kernel
theorem dX9_move_11 : decode cX9_move 11 = .ok (.iload_n 2, 1) := by decide +kernel
theorem dX9_move_12 : decode cX9_move 12 = .ok (.invokestatic 67, 3) := by decide +kernel
theorem dX9_move_15 : decode cX9_move 15 = .ok (.ifCond .eq 19, 3) := by decide +kernel
theorem dX9_move_18 : decode cX9_move 18 = .ok (.aload_n 0, 1) := by decide +kernel
theorem dX9_move_19 : decode cX9_move 19 = .ok (.getfield 12, 3) := by decide +kernel
theorem dX9_move_22 : decode cX9_move 22 = .ok (.getfield 47, 3) := by decide +kernel
theorem dX9_move_25 : decode cX9_move 25 = .ok (.getfield 113, 3) := by decide +kernel
theorem dX9_move_28 : decode cX9_move 28 = .ok (.iload_n 1, 1) := by decide +kernel
theorem dX9_move_29 : decode cX9_move 29 = .ok (.iaload, 1) := by decide +kernel
theorem dX9_move_30 : decode cX9_move 30 = .ok (.iload_n 2, 1) := by decide +kernel
theorem dX9_move_31 : decode cX9_move 31 = .ok (.if_icmp .ne 5, 3) := by decide +kernel
theorem dX9_move_34 : decode cX9_move 34 = .ok (.iconst 0, 1) := by decide +kernel
theorem dX9_move_35 : decode cX9_move 35 = .ok (.ireturn, 1) := by decide +kernel
theorem dX9_move_36 : decode cX9_move 36 = .ok (.aload_n 0, 1) := by decide +kernel
theorem dX9_move_37 : decode cX9_move 37 = .ok (.getfield 25, 3) := by decide +kernel
theorem dX9_move_40 : decode cX9_move 40 = .ok (.aload_n 0, 1) := by decide +kernel
theorem dX9_move_41 : decode cX9_move 41 = .ok (.getfield 12, 3) := by decide +kernel
theorem dX9_move_44 : decode cX9_move 44 = .ok (.invokevirtual 106, 3) := by decide +kernel
theorem dX9_move_47 : decode cX9_move 47 = .ok (.aload_n 0, 1) := by decide +kernel
theorem dX9_move_48 : decode cX9_move 48 = .ok (.getfield 12, 3) := by decide +kernel
theorem dX9_move_51 : decode cX9_move 51 = .ok (.iload_n 1, 1) := by decide +kernel
theorem dX9_move_52 : decode cX9_move 52 = .ok (.iload_n 2, 1) := by decide +kernel
theorem dX9_move_53 : decode cX9_move 53 = .ok (.invokevirtual 116, 3) := by decide +kernel
theorem dX9_move_56 : decode cX9_move 56 = .ok (.iconst 1, 1) := by decide +kernel
theorem dX9_move_57 : decode cX9_move 57 = .ok (.ireturn, 1) := by decide +kernel
theorem dX9_teach_0 : decode cX9_teach 0 = .ok (.aload_n 0, 1) := by decide +kernel
theorem dX9_teach_1 : decode cX9_teach 1 = .ok (.getfield 12, 3) := by decide +kernel
theorem dX9_teach_4 : decode cX9_teach 4 = .ok (.iload_n 1, 1) := by decide +kernel
theorem dX9_teach_5 : decode cX9_teach 5 = .ok (.invokevirtual 84, 3) := by decide +kernel
theorem dX9_teach_8 : decode cX9_teach 8 = .ok (.ifCond .eq 37, 3) := by decide +kernel
theorem dX9_teach_11 : decode cX9_teach 11 = .ok (.aload_n 0, 1) := by decide +kernel
theorem dX9_teach_12 : decode cX9_teach 12 = .ok (.getfield 12, 3) := by decide +kernel
theorem dX9_teach_15 : decode cX9_teach 15 = .ok (.iload_n 2, 1) := by decide +kernel
theorem dX9_teach_16 : decode cX9_teach 16 = .ok (.invokevirtual 91, 3) := by decide +kernel
theorem dX9_teach_19 : decode cX9_teach 19 = .ok (.ifCond .eq 26, 3) := by decide +kernel
theorem dX9_teach_22 : decode cX9_teach 22 = .ok (.aload_n 0, 1) := by decide +kernel
theorem dX9_teach_23 : decode cX9_teach 23 = .ok (.getfield 12, 3) := by decide +kernel
theorem dX9_teach_26 : decode cX9_teach 26 = .ok (.iload_n 2, 1) := by decide +kernel
theorem dX9_teach_27 : decode cX9_teach 27 = .ok (.invokevirtual 120, 3) := by decide +kernel
theorem dX9_teach_30 : decode cX9_teach 30 = .ok (.ifCond .ne 15, 3) := by decide +kernel
theorem dX9_teach_33 : decode cX9_teach 33 = .ok (.aload_n 0, 1) := by decide +kernel
theorem dX9_teach_34 : decode cX9_teach 34 = .ok (.getfield 12, 3) := by decide +kernel
theorem dX9_teach_37 : decode cX9_teach 37 = .ok (.iload_n 1, 1) := by decide +kernel
theorem dX9_teach_38 : decode cX9_teach 38 = .ok (.iload_n 2, 1) := by decide +kernel
theorem dX9_teach_39 : decode cX9_teach 39 = .ok (.invokevirtual 123, 3) := by decide +kernel
theorem dX9_teach_42 : decode cX9_teach 42 = .ok (.ifCond .eq 5, 3) := by decide +kernel
theorem dX9_teach_45 : decode cX9_teach 45 = .ok (.iconst 0, 1) := by decide +kernel
theorem dX9_teach_46 : decode cX9_teach 46 = .ok (.ireturn, 1) := by decide +kernel
theorem dX9_teach_47 : decode cX9_teach 47 = .ok (.aload_n 0, 1) := by decide +kernel
theorem dX9_teach_48 : decode cX9_teach 48 = .ok (.getfield 25, 3) := by decide +kernel
theorem dX9_teach_51 : decode cX9_teach 51 = .ok (.aload_n 0, 1) := by decide +kernel
theorem dX9_teach_52 : decode cX9_teach 52 = .ok (.getfield 12, 3) := by decide +kernel
theorem dX9_teach_55 : decode cX9_teach 55 = .ok (.invokevirtual 106, 3) := by decide +kernel
theorem dX9_teach_58 : decode cX9_teach 58 = .ok (.aload_n 0, 1) := by decide +kernel
theorem dX9_teach_59 : decode cX9_teach 59 = .ok (.getfield 12, 3) := by decide +kernel
theorem dX9_teach_62 : decode cX9_teach 62 = .ok (.iload_n 1, 1) := by decide +kernel
theorem dX9_teach_63 : decode cX9_teach 63 = .ok (.iload_n 2, 1) := by decide +kernel
theorem dX9_teach_64 : decode cX9_teach 64 = .ok (.invokevirtual 126, 3) := by decide +kernel
theorem dX9_teach_67 : decode cX9_teach 67 = .ok (.iconst 1, 1) := by decide +kernel
theorem dX9_teach_68 : decode cX9_teach 68 = .ok (.ireturn, 1) := by decide +kernel
theorem dX9_carve_0 : decode cX9_carve 0 = .ok (.aload_n 0, 1) := by decide +kernel
theorem dX9_carve_1 : decode cX9_carve 1 = .ok (.getfield 12, 3) := by decide +kernel
theorem dX9_carve_4 : decode cX9_carve 4 = .ok (.iload_n 1, 1) := by decide +kernel
theorem dX9_carve_5 : decode cX9_carve 5 = .ok (.invokevirtual 91, 3) := by decide +kernel
theorem dX9_carve_8 : decode cX9_carve 8 = .ok (.ifCond .eq 14, 3) := by decide +kernel
theorem dX9_carve_11 : decode cX9_carve 11 = .ok (.aload_n 0, 1) := by decide +kernel
theorem dX9_carve_12 : decode cX9_carve 12 = .ok (.getfield 12, 3) := by decide +kernel
theorem dX9_carve_15 : decode cX9_carve 15 = .ok (.iload_n 1, 1) := by decide +kernel
theorem dX9_carve_16 : decode cX9_carve 16 = .ok (.invokevirtual 120, 3) := by decide +kernel
theorem dX9_carve_19 : decode cX9_carve 19 = .ok (.ifCond .ne 5, 3) := by decide +kernel
theorem dX9_carve_22 : decode cX9_carve 22 = .ok (.iconst 0, 1) := by decide +kernel
theorem dX9_carve_23 : decode cX9_carve 23 = .ok (.ireturn, 1) := by decide +kernel
theorem dX9_carve_24 : decode cX9_carve 24 = .ok (.aload_n 0, 1) := by decide +kernel
theorem dX9_carve_25 : decode cX9_carve 25 = .ok (.getfield 25, 3) := by decide +kernel
theorem dX9_carve_28 : decode cX9_carve 28 = .ok (.aload_n 0, 1) := by decide +kernel
theorem dX9_carve_29 : decode cX9_carve 29 = .ok (.getfield 12, 3) := by decide +kernel
theorem dX9_carve_32 : decode cX9_carve 32 = .ok (.invokevirtual 106, 3) := by decide +kernel
theorem dX9_carve_35 : decode cX9_carve 35 = .ok (.aload_n 0, 1) := by decide +kernel
theorem dX9_carve_36 : decode cX9_carve 36 = .ok (.getfield 12, 3) := by decide +kernel
theorem dX9_carve_39 : decode cX9_carve 39 = .ok (.iload_n 1, 1) := by decide +kernel
theorem dX9_carve_40 : decode cX9_carve 40 = .ok (.invokevirtual 129, 3) := by decide +kernel
theorem dX9_carve_43 : decode cX9_carve 43 = .ok (.iconst 1, 1) := by decide +kernel
theorem dX9_carve_44 : decode cX9_carve 44 = .ok (.ireturn, 1) := by decide +kernel
theorem dX9_days_0 : decode cX9_days 0 = .ok (.iload_n 1, 1) := by decide +kernel
theorem dX9_days_1 : decode cX9_days 1 = .ok (.iconst 1, 1) := by decide +kernel
theorem dX9_days_2 : decode cX9_days 2 = .ok (.if_icmp .lt 27, 3) := by decide +kernel
theorem dX9_days_5 : decode cX9_days 5 = .ok (.iload_n 1, 1) := by decide +kernel
theorem dX9_days_6 : decode cX9_days 6 = .ok (.bipush 60, 2) := by decide +kernel
theorem dX9_days_8 : decode cX9_days 8 = .ok (.if_icmp .gt 21, 3) := by decide +kernel
theorem dX9_days_11 : decode cX9_days 11 = .ok (.aload_n 0, 1) := by decide +kernel
theorem dX9_days_12 : decode cX9_days 12 = .ok (.getfield 12, 3) := by decide +kernel
theorem dX9_days_15 : decode cX9_days 15 = .ok (.getfield 47, 3) := by decide +kernel
theorem dX9_days_18 : decode cX9_days 18 = .ok (.getfield 133, 3) := by decide +kernel
theorem dX9_days_21 : decode cX9_days 21 = .ok (.iload_n 1, 1) := by decide +kernel
theorem dX9_days_22 : decode cX9_days 22 = .ok (.iadd, 1) := by decide +kernel
theorem dX9_days_23 : decode cX9_days 23 = .ok (.sipush 9999, 3) := by decide +kernel
theorem dX9_days_26 : decode cX9_days 26 = .ok (.if_icmp .le 5, 3) := by decide +kernel
theorem dX9_days_29 : decode cX9_days 29 = .ok (.iconst (-1), 1) := by decide +kernel
theorem dX9_days_30 : decode cX9_days 30 = .ok (.ireturn, 1) := by decide +kernel
theorem dX9_days_31 : decode cX9_days 31 = .ok (.aload_n 0, 1) := by decide +kernel
theorem dX9_days_32 : decode cX9_days 32 = .ok (.getfield 12, 3) := by decide +kernel
theorem dX9_days_35 : decode cX9_days 35 = .ok (.getfield 47, 3) := by decide +kernel
theorem dX9_days_38 : decode cX9_days 38 = .ok (.getfield 136, 3) := by decide +kernel
theorem dX9_days_41 : decode cX9_days 41 = .ok (.invokestatic 139, 3) := by decide +kernel
theorem dX9_days_44 : decode cX9_days 44 = .ok (.istore_n 2, 1) := by decide +kernel
theorem dX9_days_45 : decode cX9_days 45 = .ok (.iconst 0, 1) := by decide +kernel
theorem dX9_days_46 : decode cX9_days 46 = .ok (.istore_n 3, 1) := by decide +kernel
theorem dX9_days_47 : decode cX9_days 47 = .ok (.iload_n 3, 1) := by decide +kernel
theorem dX9_days_48 : decode cX9_days 48 = .ok (.iload_n 1, 1) := by decide +kernel
theorem dX9_days_49 : decode cX9_days 49 = .ok (.if_icmp .ge 27, 3) := by decide +kernel
theorem dX9_days_52 : decode cX9_days 52 = .ok (.aload_n 0, 1) := by decide +kernel
theorem dX9_days_53 : decode cX9_days 53 = .ok (.getfield 25, 3) := by decide +kernel
theorem dX9_days_56 : decode cX9_days 56 = .ok (.aload_n 0, 1) := by decide +kernel
theorem dX9_days_57 : decode cX9_days 57 = .ok (.getfield 12, 3) := by decide +kernel
theorem dX9_days_60 : decode cX9_days 60 = .ok (.invokevirtual 106, 3) := by decide +kernel
theorem dX9_days_63 : decode cX9_days 63 = .ok (.aload_n 0, 1) := by decide +kernel
theorem dX9_days_64 : decode cX9_days 64 = .ok (.getfield 12, 3) := by decide +kernel
theorem dX9_days_67 : decode cX9_days 67 = .ok (.invokevirtual 144, 3) := by decide +kernel
theorem dX9_days_70 : decode cX9_days 70 = .ok (.iinc 3 1, 3) := by decide +kernel
theorem dX9_days_73 : decode cX9_days 73 = .ok (.goto (-26), 3) := by decide +kernel
theorem dX9_days_76 : decode cX9_days 76 = .ok (.aload_n 0, 1) := by decide +kernel
theorem dX9_days_77 : decode cX9_days 77 = .ok (.getfield 12, 3) := by decide +kernel
theorem dX9_days_80 : decode cX9_days 80 = .ok (.getfield 47, 3) := by decide +kernel
theorem dX9_days_83 : decode cX9_days 83 = .ok (.getfield 136, 3) := by decide +kernel
theorem dX9_days_86 : decode cX9_days 86 = .ok (.invokestatic 139, 3) := by decide +kernel
theorem dX9_days_89 : decode cX9_days 89 = .ok (.iload_n 2, 1) := by decide +kernel
theorem dX9_days_90 : decode cX9_days 90 = .ok (.isub, 1) := by decide +kernel
theorem dX9_days_91 : decode cX9_days 91 = .ok (.ireturn, 1) := by decide +kernel
theorem dX9_feed_0 : decode cX9_feed 0 = .ok (.aload_n 0, 1) := by decide +kernel
theorem dX9_feed_1 : decode cX9_feed 1 = .ok (.getfield 32, 3) := by decide +kernel
theorem dX9_feed_4 : decode cX9_feed 4 = .ok (.getfield 147, 3) := by decide +kernel
theorem dX9_feed_7 : decode cX9_feed 7 = .ok (.bipush 20, 2) := by decide +kernel
theorem dX9_feed_9 : decode cX9_feed 9 = .ok (.iadd, 1) := by decide +kernel
theorem dX9_feed_10 : decode cX9_feed 10 = .ok (.sipush 400, 3) := by decide +kernel
theorem dX9_feed_13 : decode cX9_feed 13 = .ok (.if_icmp .le 5, 3) := by decide +kernel
theorem dX9_feed_16 : decode cX9_feed 16 = .ok (.iconst (-1), 1) := by decide +kernel
theorem dX9_feed_17 : decode cX9_feed 17 = .ok (.ireturn, 1) := by decide +kernel
theorem dX9_feed_18 : decode cX9_feed 18 = .ok (.aload_n 0, 1) := by decide +kernel
theorem dX9_feed_19 : decode cX9_feed 19 = .ok (.getfield 32, 3) := by decide +kernel
theorem dX9_feed_22 : decode cX9_feed 22 = .ok (.iload_n 1, 1) := by decide +kernel
theorem dX9_feed_23 : decode cX9_feed 23 = .ok (.invokevirtual 150, 3) := by decide +kernel
theorem dX9_feed_26 : decode cX9_feed 26 = .ok (.aload_n 0, 1) := by decide +kernel
theorem dX9_feed_27 : decode cX9_feed 27 = .ok (.getfield 32, 3) := by decide +kernel
theorem dX9_feed_30 : decode cX9_feed 30 = .ok (.iload_n 2, 1) := by decide +kernel
theorem dX9_feed_31 : decode cX9_feed 31 = .ok (.invokevirtual 150, 3) := by decide +kernel
theorem dX9_feed_34 : decode cX9_feed 34 = .ok (.aload_n 0, 1) := by decide +kernel
theorem dX9_feed_35 : decode cX9_feed 35 = .ok (.getfield 32, 3) := by decide +kernel
theorem dX9_feed_38 : decode cX9_feed 38 = .ok (.iload_n 3, 1) := by decide +kernel
theorem dX9_feed_39 : decode cX9_feed 39 = .ok (.invokevirtual 150, 3) := by decide +kernel
theorem dX9_feed_42 : decode cX9_feed 42 = .ok (.aload_n 0, 1) := by decide +kernel
theorem dX9_feed_43 : decode cX9_feed 43 = .ok (.getfield 32, 3) := by decide +kernel
theorem dX9_feed_46 : decode cX9_feed 46 = .ok (.iload 4, 2) := by decide +kernel
theorem dX9_feed_48 : decode cX9_feed 48 = .ok (.invokevirtual 150, 3) := by decide +kernel
theorem dX9_feed_51 : decode cX9_feed 51 = .ok (.aload_n 0, 1) := by decide +kernel
theorem dX9_feed_52 : decode cX9_feed 52 = .ok (.getfield 32, 3) := by decide +kernel
theorem dX9_feed_55 : decode cX9_feed 55 = .ok (.iload 5, 2) := by decide +kernel
theorem dX9_feed_57 : decode cX9_feed 57 = .ok (.invokevirtual 150, 3) := by decide +kernel
theorem dX9_feed_60 : decode cX9_feed 60 = .ok (.aload_n 0, 1) := by decide +kernel
theorem dX9_feed_61 : decode cX9_feed 61 = .ok (.getfield 32, 3) := by decide +kernel
theorem dX9_feed_64 : decode cX9_feed 64 = .ok (.getfield 147, 3) := by decide +kernel
theorem dX9_feed_67 : decode cX9_feed 67 = .ok (.ireturn, 1) := by decide +kernel
theorem dX9_end_0 : decode cX9_end 0 = .ok (.iload_n 1, 1) := by decide +kernel
theorem dX9_end_1 : decode cX9_end 1 = .ok (.ifCond .lt 14, 3) := by decide +kernel
theorem dX9_end_4 : decode cX9_end 4 = .ok (.iload_n 1, 1) := by decide +kernel
theorem dX9_end_5 : decode cX9_end 5 = .ok (.aload_n 0, 1) := by decide +kernel
theorem dX9_end_6 : decode cX9_end 6 = .ok (.getfield 32, 3) := by decide +kernel
theorem dX9_end_9 : decode cX9_end 9 = .ok (.getfield 147, 3) := by decide +kernel
theorem dX9_end_12 : decode cX9_end 12 = .ok (.if_icmp .le 5, 3) := by decide +kernel
theorem dX9_end_15 : decode cX9_end 15 = .ok (.iconst 0, 1) := by decide +kernel
theorem dX9_end_16 : decode cX9_end 16 = .ok (.ireturn, 1) := by decide +kernel
theorem dX9_end_17 : decode cX9_end 17 = .ok (.aload_n 0, 1) := by decide +kernel
theorem dX9_end_18 : decode cX9_end 18 = .ok (.getfield 32, 3) := by decide +kernel
theorem dX9_end_21 : decode cX9_end 21 = .ok (.iload_n 1, 1) := by decide +kernel
theorem dX9_end_22 : decode cX9_end 22 = .ok (.putfield 147, 3) := by decide +kernel
theorem dX9_end_25 : decode cX9_end 25 = .ok (.iconst 1, 1) := by decide +kernel
theorem dX9_end_26 : decode cX9_end 26 = .ok (.ireturn, 1) := by decide +kernel
theorem dX9_text_0 : decode cX9_text 0 = .ok (.aload_n 0, 1) := by decide +kernel
theorem dX9_text_1 : decode cX9_text 1 = .ok (.getfield 39, 3) := by decide +kernel
theorem dX9_text_4 : decode cX9_text 4 = .ok (.iload_n 1, 1) := by decide +kernel
theorem dX9_text_5 : decode cX9_text 5 = .ok (.aload_n 0, 1) := by decide +kernel
theorem dX9_text_6 : decode cX9_text 6 = .ok (.getfield 32, 3) := by decide +kernel
theorem dX9_text_9 : decode cX9_text 9 = .ok (.aload_n 0, 1) := by decide +kernel
theorem dX9_text_10 : decode cX9_text 10 = .ok (.getfield 12, 3) := by decide +kernel
theorem dX9_text_13 : decode cX9_text 13 = .ok (.aload_n 0, 1) := by decide +kernel
theorem dX9_text_14 : decode cX9_text 14 = .ok (.getfield 19, 3) := by decide +kernel
theorem dX9_text_17 : decode cX9_text 17 = .ok (.invokevirtual 153, 3) := by decide +kernel
theorem dX9_text_20 : decode cX9_text 20 = .ok (.istore_n 2, 1) := by decide +kernel
theorem dX9_text_21 : decode cX9_text 21 = .ok (.aload_n 0, 1) := by decide +kernel
theorem dX9_text_22 : decode cX9_text 22 = .ok (.getfield 32, 3) := by decide +kernel
theorem dX9_text_25 : decode cX9_text 25 = .ok (.iconst 0, 1) := by decide +kernel
theorem dX9_text_26 : decode cX9_text 26 = .ok (.putfield 147, 3) := by decide +kernel
theorem dX9_text_29 : decode cX9_text 29 = .ok (.iload_n 2, 1) := by decide +kernel
theorem dX9_text_30 : decode cX9_text 30 = .ok (.iconst (-1), 1) := by decide +kernel
theorem dX9_text_31 : decode cX9_text 31 = .ok (.if_icmp .ne 5, 3) := by decide +kernel
theorem dX9_text_34 : decode cX9_text 34 = .ok (.iconst (-1), 1) := by decide +kernel
theorem dX9_text_35 : decode cX9_text 35 = .ok (.ireturn, 1) := by decide +kernel
theorem dX9_text_36 : decode cX9_text 36 = .ok (.iload_n 1, 1) := by decide +kernel
