theorem dX0_init_0 : decode cX0_init 0 = .ok (.aload_n 0, 1) := by decide +kernel
theorem dX0_init_1 : decode cX0_init 1 = .ok (.invokespecial 3, 3) := by decide +kernel
theorem dX0_init_4 : decode cX0_init 4 = .ok (.aload_n 0, 1) := by decide +kernel
theorem dX0_init_5 : decode cX0_init 5 = .ok (.bipush 14, 2) := by decide +kernel
theorem dX0_init_7 : decode cX0_init 7 = .ok (.newarray .int, 2) := by decide +kernel
theorem dX0_init_9 : decode cX0_init 9 = .ok (.putfield 9, 3) := by decide +kernel
theorem dX0_init_12 : decode cX0_init 12 = .ok (.aload_n 0, 1) := by decide +kernel
theorem dX0_init_13 : decode cX0_init 13 = .ok (.bipush 14, 2) := by decide +kernel
theorem dX0_init_15 : decode cX0_init 15 = .ok (.newarray .int, 2) := by decide +kernel
theorem dX0_init_17 : decode cX0_init 17 = .ok (.putfield 15, 3) := by decide +kernel
theorem dX0_init_20 : decode cX0_init 20 = .ok (.aload_n 0, 1) := by decide +kernel
theorem dX0_init_21 : decode cX0_init 21 = .ok (.bipush 10, 2) := by decide +kernel
theorem dX0_init_23 : decode cX0_init 23 = .ok (.newarray .int, 2) := by decide +kernel
theorem dX0_init_25 : decode cX0_init 25 = .ok (.putfield 18, 3) := by decide +kernel
theorem dX0_init_28 : decode cX0_init 28 = .ok (.aload_n 0, 1) := by decide +kernel
theorem dX0_init_29 : decode cX0_init 29 = .ok (.bipush 10, 2) := by decide +kernel
theorem dX0_init_31 : decode cX0_init 31 = .ok (.newarray .int, 2) := by decide +kernel
theorem dX0_init_33 : decode cX0_init 33 = .ok (.putfield 21, 3) := by decide +kernel
theorem dX0_init_36 : decode cX0_init 36 = .ok (.aload_n 0, 1) := by decide +kernel
theorem dX0_init_37 : decode cX0_init 37 = .ok (.bipush 10, 2) := by decide +kernel
theorem dX0_init_39 : decode cX0_init 39 = .ok (.newarray .int, 2) := by decide +kernel
theorem dX0_init_41 : decode cX0_init 41 = .ok (.putfield 24, 3) := by decide +kernel
theorem dX0_init_44 : decode cX0_init 44 = .ok (.return_, 1) := by decide +kernel
theorem dX0_become_0 : decode cX0_become 0 = .ok (.aload_n 0, 1) := by decide +kernel
theorem dX0_become_1 : decode cX0_become 1 = .ok (.aload_n 1, 1) := by decide +kernel
theorem dX0_become_2 : decode cX0_become 2 = .ok (.getfield 27, 3) := by decide +kernel
theorem dX0_become_5 : decode cX0_become 5 = .ok (.putfield 27, 3) := by decide +kernel
theorem dX0_become_8 : decode cX0_become 8 = .ok (.aload_n 0, 1) := by decide +kernel
theorem dX0_become_9 : decode cX0_become 9 = .ok (.aload_n 1, 1) := by decide +kernel
theorem dX0_become_10 : decode cX0_become 10 = .ok (.getfield 31, 3) := by decide +kernel
theorem dX0_become_13 : decode cX0_become 13 = .ok (.putfield 31, 3) := by decide +kernel
theorem dX0_become_16 : decode cX0_become 16 = .ok (.aload_n 0, 1) := by decide +kernel
theorem dX0_become_17 : decode cX0_become 17 = .ok (.aload_n 1, 1) := by decide +kernel
theorem dX0_become_18 : decode cX0_become 18 = .ok (.getfield 34, 3) := by decide +kernel
theorem dX0_become_21 : decode cX0_become 21 = .ok (.putfield 34, 3) := by decide +kernel
theorem dX0_become_24 : decode cX0_become 24 = .ok (.aload_n 1, 1) := by decide +kernel
theorem dX0_become_25 : decode cX0_become 25 = .ok (.getfield 9, 3) := by decide +kernel
theorem dX0_become_28 : decode cX0_become 28 = .ok (.iconst 0, 1) := by decide +kernel
theorem dX0_become_29 : decode cX0_become 29 = .ok (.aload_n 0, 1) := by decide +kernel
theorem dX0_become_30 : decode cX0_become 30 = .ok (.getfield 9, 3) := by decide +kernel
theorem dX0_become_33 : decode cX0_become 33 = .ok (.iconst 0, 1) := by decide +kernel
theorem dX0_become_34 : decode cX0_become 34 = .ok (.bipush 14, 2) := by decide +kernel
theorem dX0_become_36 : decode cX0_become 36 = .ok (.invokestatic 37, 3) := by decide +kernel
theorem dX0_become_39 : decode cX0_become 39 = .ok (.aload_n 1, 1) := by decide +kernel
theorem dX0_become_40 : decode cX0_become 40 = .ok (.getfield 15, 3) := by decide +kernel
theorem dX0_become_43 : decode cX0_become 43 = .ok (.iconst 0, 1) := by decide +kernel
theorem dX0_become_44 : decode cX0_become 44 = .ok (.aload_n 0, 1) := by decide +kernel
theorem dX0_become_45 : decode cX0_become 45 = .ok (.getfield 15, 3) := by decide +kernel
theorem dX0_become_48 : decode cX0_become 48 = .ok (.iconst 0, 1) := by decide +kernel
theorem dX0_become_49 : decode cX0_become 49 = .ok (.bipush 14, 2) := by decide +kernel
theorem dX0_become_51 : decode cX0_become 51 = .ok (.invokestatic 37, 3) := by decide +kernel
theorem dX0_become_54 : decode cX0_become 54 = .ok (.aload_n 1, 1) := by decide +kernel
theorem dX0_become_55 : decode cX0_become 55 = .ok (.getfield 18, 3) := by decide +kernel
theorem dX0_become_58 : decode cX0_become 58 = .ok (.iconst 0, 1) := by decide +kernel
theorem dX0_become_59 : decode cX0_become 59 = .ok (.aload_n 0, 1) := by decide +kernel
theorem dX0_become_60 : decode cX0_become 60 = .ok (.getfield 18, 3) := by decide +kernel
theorem dX0_become_63 : decode cX0_become 63 = .ok (.iconst 0, 1) := by decide +kernel
theorem dX0_become_64 : decode cX0_become 64 = .ok (.bipush 10, 2) := by decide +kernel
theorem dX0_become_66 : decode cX0_become 66 = .ok (.invokestatic 37, 3) := by decide +kernel
theorem dX0_become_69 : decode cX0_become 69 = .ok (.aload_n 1, 1) := by decide +kernel
theorem dX0_become_70 : decode cX0_become 70 = .ok (.getfield 21, 3) := by decide +kernel
theorem dX0_become_73 : decode cX0_become 73 = .ok (.iconst 0, 1) := by decide +kernel
theorem dX0_become_74 : decode cX0_become 74 = .ok (.aload_n 0, 1) := by decide +kernel
theorem dX0_become_75 : decode cX0_become 75 = .ok (.getfield 21, 3) := by decide +kernel
theorem dX0_become_78 : decode cX0_become 78 = .ok (.iconst 0, 1) := by decide +kernel
theorem dX0_become_79 : decode cX0_become 79 = .ok (.bipush 10, 2) := by decide +kernel
theorem dX0_become_81 : decode cX0_become 81 = .ok (.invokestatic 37, 3) := by decide +kernel
theorem dX0_become_84 : decode cX0_become 84 = .ok (.aload_n 1, 1) := by decide +kernel
theorem dX0_become_85 : decode cX0_become 85 = .ok (.getfield 24, 3) := by decide +kernel
theorem dX0_become_88 : decode cX0_become 88 = .ok (.iconst 0, 1) := by decide +kernel
theorem dX0_become_89 : decode cX0_become 89 = .ok (.aload_n 0, 1) := by decide +kernel
theorem dX0_become_90 : decode cX0_become 90 = .ok (.getfield 24, 3) := by decide +kernel
theorem dX0_become_93 : decode cX0_become 93 = .ok (.iconst 0, 1) := by decide +kernel
theorem dX0_become_94 : decode cX0_become 94 = .ok (.bipush 10, 2) := by decide +kernel
theorem dX0_become_96 : decode cX0_become 96 = .ok (.invokestatic 37, 3) := by decide +kernel
theorem dX0_become_99 : decode cX0_become 99 = .ok (.return_, 1) := by decide +kernel
theorem dX1_init_0 : decode cX1_init 0 = .ok (.aload_n 0, 1) := by decide +kernel
theorem dX1_init_1 : decode cX1_init 1 = .ok (.invokespecial 3, 3) := by decide +kernel
theorem dX1_init_4 : decode cX1_init 4 = .ok (.aload_n 0, 1) := by decide +kernel
theorem dX1_init_5 : decode cX1_init 5 = .ok (.bipush 16, 2) := by decide +kernel
theorem dX1_init_7 : decode cX1_init 7 = .ok (.newarray .int, 2) := by decide +kernel
theorem dX1_init_9 : decode cX1_init 9 = .ok (.putfield 9, 3) := by decide +kernel
theorem dX1_init_12 : decode cX1_init 12 = .ok (.aload_n 0, 1) := by decide +kernel
theorem dX1_init_13 : decode cX1_init 13 = .ok (.bipush 16, 2) := by decide +kernel
theorem dX1_init_15 : decode cX1_init 15 = .ok (.newarray .int, 2) := by decide +kernel
theorem dX1_init_17 : decode cX1_init 17 = .ok (.putfield 15, 3) := by decide +kernel
theorem dX1_init_20 : decode cX1_init 20 = .ok (.aload_n 0, 1) := by decide +kernel
theorem dX1_init_21 : decode cX1_init 21 = .ok (.bipush 16, 2) := by decide +kernel
theorem dX1_init_23 : decode cX1_init 23 = .ok (.newarray .int, 2) := by decide +kernel
theorem dX1_init_25 : decode cX1_init 25 = .ok (.putfield 18, 3) := by decide +kernel
theorem dX1_init_28 : decode cX1_init 28 = .ok (.aload_n 0, 1) := by decide +kernel
theorem dX1_init_29 : decode cX1_init 29 = .ok (.bipush 16, 2) := by decide +kernel
theorem dX1_init_31 : decode cX1_init 31 = .ok (.newarray .int, 2) := by decide +kernel
theorem dX1_init_33 : decode cX1_init 33 = .ok (.putfield 21, 3) := by decide +kernel
theorem dX1_init_36 : decode cX1_init 36 = .ok (.aload_n 0, 1) := by decide +kernel
theorem dX1_init_37 : decode cX1_init 37 = .ok (.sipush 400, 3) := by decide +kernel
theorem dX1_init_40 : decode cX1_init 40 = .ok (.newarray .int, 2) := by decide +kernel
theorem dX1_init_42 : decode cX1_init 42 = .ok (.putfield 24, 3) := by decide +kernel
theorem dX1_init_45 : decode cX1_init 45 = .ok (.aload_n 0, 1) := by decide +kernel
theorem dX1_init_46 : decode cX1_init 46 = .ok (.bipush 32, 2) := by decide +kernel
theorem dX1_init_48 : decode cX1_init 48 = .ok (.newarray .int, 2) := by decide +kernel
theorem dX1_init_50 : decode cX1_init 50 = .ok (.putfield 27, 3) := by decide +kernel
theorem dX1_init_53 : decode cX1_init 53 = .ok (.return_, 1) := by decide +kernel
theorem dX1_become_0 : decode cX1_become 0 = .ok (.aload_n 0, 1) := by decide +kernel
theorem dX1_become_1 : decode cX1_become 1 = .ok (.aload_n 1, 1) := by decide +kernel
theorem dX1_become_2 : decode cX1_become 2 = .ok (.getfield 30, 3) := by decide +kernel
theorem dX1_become_5 : decode cX1_become 5 = .ok (.putfield 30, 3) := by decide +kernel
theorem dX1_become_8 : decode cX1_become 8 = .ok (.aload_n 0, 1) := by decide +kernel
theorem dX1_become_9 : decode cX1_become 9 = .ok (.aload_n 1, 1) := by decide +kernel
theorem dX1_become_10 : decode cX1_become 10 = .ok (.getfield 34, 3) := by decide +kernel
theorem dX1_become_13 : decode cX1_become 13 = .ok (.putfield 34, 3) := by decide +kernel
theorem dX1_become_16 : decode cX1_become 16 = .ok (.aload_n 1, 1) := by decide +kernel
theorem dX1_become_17 : decode cX1_become 17 = .ok (.getfield 9, 3) := by decide +kernel
theorem dX1_become_20 : decode cX1_become 20 = .ok (.iconst 0, 1) := by decide +kernel
theorem dX1_become_21 : decode cX1_become 21 = .ok (.aload_n 0, 1) := by decide +kernel
theorem dX1_become_22 : decode cX1_become 22 = .ok (.getfield 9, 3) := by decide +kernel
theorem dX1_become_25 : decode cX1_become 25 = .ok (.iconst 0, 1) := by decide +kernel
theorem dX1_become_26 : decode cX1_become 26 = .ok (.bipush 16, 2) := by decide +kernel
theorem dX1_become_28 : decode cX1_become 28 = .ok (.invokestatic 37, 3) := by decide +kernel
theorem dX1_become_31 : decode cX1_become 31 = .ok (.aload_n 1, 1) := by decide +kernel
theorem dX1_become_32 : decode cX1_become 32 = .ok (.getfield 15, 3) := by decide +kernel
theorem dX1_become_35 : decode cX1_become 35 = .ok (.iconst 0, 1) := by decide +kernel
theorem dX1_become_36 : decode cX1_become 36 = .ok (.aload_n 0, 1) := by decide +kernel
theorem dX1_become_37 : decode cX1_become 37 = .ok (.getfield 15, 3) := by decide +kernel
theorem dX1_become_40 : decode cX1_become 40 = .ok (.iconst 0, 1) := by decide +kernel
theorem dX1_become_41 : decode cX1_become 41 = .ok (.bipush 16, 2) := by decide +kernel
theorem dX1_become_43 : decode cX1_become 43 = .ok (.invokestatic 37, 3) := by decide +kernel
theorem dX1_become_46 : decode cX1_become 46 = .ok (.aload_n 1, 1) := by decide +kernel
theorem dX1_become_47 : decode cX1_become 47 = .ok (.getfield 18, 3) := by decide +kernel
theorem dX1_become_50 : decode cX1_become 50 = .ok (.iconst 0, 1) := by decide +kernel
theorem dX1_become_51 : decode cX1_become 51 = .ok (.aload_n 0, 1) := by decide +kernel
theorem dX1_become_52 : decode cX1_become 52 = .ok (.getfield 18, 3) := by decide +kernel
theorem dX1_become_55 : decode cX1_become 55 = .ok (.iconst 0, 1) := by decide +kernel
theorem dX1_become_56 : decode cX1_become 56 = .ok (.bipush 16, 2) := by decide +kernel
theorem dX1_become_58 : decode cX1_become 58 = .ok (.invokestatic 37, 3) := by decide +kernel
theorem dX1_become_61 : decode cX1_become 61 = .ok (.aload_n 1, 1) := by decide +kernel
theorem dX1_become_62 : decode cX1_become 62 = .ok (.getfield 21, 3) := by decide +kernel
theorem dX1_become_65 : decode cX1_become 65 = .ok (.iconst 0, 1) := by decide +kernel
theorem dX1_become_66 : decode cX1_become 66 = .ok (.aload_n 0, 1) := by decide +kernel
theorem dX1_become_67 : decode cX1_become 67 = .ok (.getfield 21, 3) := by decide +kernel
theorem dX1_become_70 : decode cX1_become 70 = .ok (.iconst 0, 1) := by decide +kernel
theorem dX1_become_71 : decode cX1_become 71 = .ok (.bipush 16, 2) := by decide +kernel
theorem dX1_become_73 : decode cX1_become 73 = .ok (.invokestatic 37, 3) := by decide +kernel
theorem dX1_become_76 : decode cX1_become 76 = .ok (.aload_n 1, 1) := by decide +kernel
theorem dX1_become_77 : decode cX1_become 77 = .ok (.getfield 24, 3) := by decide +kernel
theorem dX1_become_80 : decode cX1_become 80 = .ok (.iconst 0, 1) := by decide +kernel
theorem dX1_become_81 : decode cX1_become 81 = .ok (.aload_n 0, 1) := by decide +kernel
theorem dX1_become_82 : decode cX1_become 82 = .ok (.getfield 24, 3) := by decide +kernel
theorem dX1_become_85 : decode cX1_become 85 = .ok (.iconst 0, 1) := by decide +kernel
theorem dX1_become_86 : decode cX1_become 86 = .ok (.sipush 400, 3) := by decide +kernel
theorem dX1_become_89 : decode cX1_become 89 = .ok (.invokestatic 37, 3) := by decide +kernel
theorem dX1_become_92 : decode cX1_become 92 = .ok (.return_, 1) := by decide +kernel
theorem dX1_clear_0 : decode cX1_clear 0 = .ok (.aload_n 0, 1) := by decide +kernel
theorem dX1_clear_1 : decode cX1_clear 1 = .ok (.iconst 0, 1) := by decide +kernel
theorem dX1_clear_2 : decode cX1_clear 2 = .ok (.putfield 30, 3) := by decide +kernel
theorem dX1_clear_5 : decode cX1_clear 5 = .ok (.aload_n 0, 1) := by decide +kernel
theorem dX1_clear_6 : decode cX1_clear 6 = .ok (.iconst 0, 1) := by decide +kernel
theorem dX1_clear_7 : decode cX1_clear 7 = .ok (.putfield 34, 3) := by decide +kernel
theorem dX1_clear_10 : decode cX1_clear 10 = .ok (.return_, 1) := by decide +kernel
theorem dX1_open_0 : decode cX1_open 0 = .ok (.aload_n 0, 1) := by decide +kernel
theorem dX1_open_1 : decode cX1_open 1 = .ok (.getfield 30, 3) := by decide +kernel
theorem dX1_open_4 : decode cX1_open 4 = .ok (.bipush 16, 2) := by decide +kernel
theorem dX1_open_6 : decode cX1_open 6 = .ok (.if_icmp .ge 26, 3) := by decide +kernel
theorem dX1_open_9 : decode cX1_open 9 = .ok (.aload_n 0, 1) := by decide +kernel
theorem dX1_open_10 : decode cX1_open 10 = .ok (.getfield 9, 3) := by decide +kernel
theorem dX1_open_13 : decode cX1_open 13 = .ok (.aload_n 0, 1) := by decide +kernel
theorem dX1_open_14 : decode cX1_open 14 = .ok (.getfield 30, 3) := by decide +kernel
theorem dX1_open_17 : decode cX1_open 17 = .ok (.iload_n 1, 1) := by decide +kernel
theorem dX1_open_18 : decode cX1_open 18 = .ok (.iastore, 1) := by decide +kernel
theorem dX1_open_19 : decode cX1_open 19 = .ok (.aload_n 0, 1) := by decide +kernel
theorem dX1_open_20 : decode cX1_open 20 = .ok (.getfield 15, 3) := by decide +kernel
theorem dX1_open_23 : decode cX1_open 23 = .ok (.aload_n 0, 1) := by decide +kernel
theorem dX1_open_24 : decode cX1_open 24 = .ok (.getfield 30, 3) := by decide +kernel
theorem dX1_open_27 : decode cX1_open 27 = .ok (.aload_n 0, 1) := by decide +kernel
theorem dX1_open_28 : decode cX1_open 28 = .ok (.getfield 34, 3) := by decide +kernel
theorem dX1_open_31 : decode cX1_open 31 = .ok (.iastore, 1) := by decide +kernel
theorem dX1_open_32 : decode cX1_open 32 = .ok (.return_, 1) := by decide +kernel
theorem dX1_openCondition_0 : decode cX1_openCondition 0 = .ok (.aload_n 0, 1) := by decide +kernel
theorem dX1_openCondition_1 : decode cX1_openCondition 1 = .ok (.getfield 30, 3) := by decide +kernel
theorem dX1_openCondition_4 : decode cX1_openCondition 4 = .ok (.bipush 16, 2) := by decide +kernel
theorem dX1_openCondition_6 : decode cX1_openCondition 6 = .ok (.if_icmp .ge 16, 3) := by decide +kernel
theorem dX1_openCondition_9 : decode cX1_openCondition 9 = .ok (.aload_n 0, 1) := by decide +kernel
theorem dX1_openCondition_10 : decode cX1_openCondition 10 = .ok (.getfield 18, 3) := by decide +kernel
theorem dX1_openCondition_13 : decode cX1_openCondition 13 = .ok (.aload_n 0, 1) := by decide +kernel
theorem dX1_openCondition_14 : decode cX1_openCondition 14 = .ok (.getfield 30, 3) := by decide +kernel
theorem dX1_openCondition_17 : decode cX1_openCondition 17 = .ok (.aload_n 0, 1) := by decide +kernel
theorem dX1_openCondition_18 : decode cX1_openCondition 18 = .ok (.getfield 34, 3) := by decide +kernel
theorem dX1_openCondition_21 : decode cX1_openCondition 21 = .ok (.iastore, 1) := by decide +kernel
theorem dX1_openCondition_22 : decode cX1_openCondition 22 = .ok (.return_, 1) := by decide +kernel
theorem dX1_close_0 : decode cX1_close 0 = .ok (.aload_n 0, 1) := by decide +kernel
theorem dX1_close_1 : decode cX1_close 1 = .ok (.getfield 30, 3) := by decide +kernel
theorem dX1_close_4 : decode cX1_close 4 = .ok (.bipush 16, 2) := by decide +kernel
theorem dX1_close_6 : decode cX1_close 6 = .ok (.if_icmp .ge 26, 3) := by decide +kernel
theorem dX1_close_9 : decode cX1_close 9 = .ok (.aload_n 0, 1) := by decide +kernel
theorem dX1_close_10 : decode cX1_close 10 = .ok (.getfield 21, 3) := by decide +kernel
theorem dX1_close_13 : decode cX1_close 13 = .ok (.aload_n 0, 1) := by decide +kernel
theorem dX1_close_14 : decode cX1_close 14 = .ok (.getfield 30, 3) := by decide +kernel
theorem dX1_close_17 : decode cX1_close 17 = .ok (.aload_n 0, 1) := by decide +kernel
theorem dX1_close_18 : decode cX1_close 18 = .ok (.getfield 34, 3) := by decide +kernel
theorem dX1_close_21 : decode cX1_close 21 = .ok (.iastore, 1) := by decide +kernel
theorem dX1_close_22 : decode cX1_close 22 = .ok (.aload_n 0, 1) := by decide +kernel
theorem dX1_close_23 : decode cX1_close 23 = .ok (.dup, 1) := by decide +kernel
theorem dX1_close_24 : decode cX1_close 24 = .ok (.getfield 30, 3) := by decide +kernel
theorem dX1_close_27 : decode cX1_close 27 = .ok (.iconst 1, 1) := by decide +kernel
theorem dX1_close_28 : decode cX1_close 28 = .ok (.iadd, 1) := by decide +kernel
theorem dX1_close_29 : decode cX1_close 29 = .ok (.putfield 30, 3) := by decide +kernel
theorem dX1_close_32 : decode cX1_close 32 = .ok (.return_, 1) := by decide +kernel
theorem dX1_emit_0 : decode cX1_emit 0 = .ok (.aload_n 0, 1) := by decide +kernel
theorem dX1_emit_1 : decode cX1_emit 1 = .ok (.getfield 34, 3) := by decide +kernel
theorem dX1_emit_4 : decode cX1_emit 4 = .ok (.sipush 400, 3) := by decide +kernel
theorem dX1_emit_7 : decode cX1_emit 7 = .ok (.if_icmp .ge 23, 3) := by decide +kernel
theorem dX1_emit_10 : decode cX1_emit 10 = .ok (.aload_n 0, 1) := by decide +kernel
theorem dX1_emit_11 : decode cX1_emit 11 = .ok (.getfield 24, 3) := by decide +kernel
theorem dX1_emit_14 : decode cX1_emit 14 = .ok (.aload_n 0, 1) := by decide +kernel
theorem dX1_emit_15 : decode cX1_emit 15 = .ok (.getfield 34, 3) := by decide +kernel
theorem dX1_emit_18 : decode cX1_emit 18 = .ok (.iload_n 1, 1) := by decide +kernel
theorem dX1_emit_19 : decode cX1_emit 19 = .ok (.iastore, 1) := by decide +kernel
theorem dX1_emit_20 : decode cX1_emit 20 = .ok (.aload_n 0, 1) := by decide +kernel
theorem dX1_emit_21 : decode cX1_emit 21 = .ok (.dup, 1) := by decide +kernel
theorem dX1_emit_22 : decode cX1_emit 22 = .ok (.getfield 34, 3) := by decide +kernel
theorem dX1_emit_25 : decode cX1_emit 25 = .ok (.iconst 1, 1) := by decide +kernel
theorem dX1_emit_26 : decode cX1_emit 26 = .ok (.iadd, 1) := by decide +kernel
theorem dX1_emit_27 : decode cX1_emit 27 = .ok (.putfield 34, 3) := by decide +kernel
theorem dX1_emit_30 : decode cX1_emit 30 = .ok (.return_, 1) := by decide +kernel
theorem dX1_tells_0 : decode cX1_tells 0 = .ok (.iconst 0, 1) := by decide +kernel
theorem dX1_tells_1 : decode cX1_tells 1 = .ok (.istore 4, 2) := by decide +kernel
theorem dX1_tells_3 : decode cX1_tells 3 = .ok (.iload 4, 2) := by decide +kernel
theorem dX1_tells_5 : decode cX1_tells 5 = .ok (.aload_n 0, 1) := by decide +kernel
theorem dX1_tells_6 : decode cX1_tells 6 = .ok (.getfield 30, 3) := by decide +kernel
theorem dX1_tells_9 : decode cX1_tells 9 = .ok (.if_icmp .ge 94, 3) := by decide +kernel
theorem dX1_tells_12 : decode cX1_tells 12 = .ok (.aload_n 0, 1) := by decide +kernel
theorem dX1_tells_13 : decode cX1_tells 13 = .ok (.getfield 9, 3) := by decide +kernel
theorem dX1_tells_16 : decode cX1_tells 16 = .ok (.iload 4, 2) := by decide +kernel
theorem dX1_tells_18 : decode cX1_tells 18 = .ok (.iaload, 1) := by decide +kernel
theorem dX1_tells_19 : decode cX1_tells 19 = .ok (.iload_n 1, 1) := by decide +kernel
theorem dX1_tells_20 : decode cX1_tells 20 = .ok (.if_icmp .eq 6, 3) := by decide +kernel
theorem dX1_tells_23 : decode cX1_tells 23 = .ok (.goto 74, 3) := by decide +kernel
theorem dX1_tells_26 : decode cX1_tells 26 = .ok (.aload_n 0, 1) := by decide +kernel
theorem dX1_tells_27 : decode cX1_tells 27 = .ok (.getfield 18, 3) := by decide +kernel
theorem dX1_tells_30 : decode cX1_tells 30 = .ok (.iload 4, 2) := by decide +kernel
theorem dX1_tells_32 : decode cX1_tells 32 = .ok (.iaload, 1) := by decide +kernel
theorem dX1_tells_33 : decode cX1_tells 33 = .ok (.aload_n 0, 1) := by decide +kernel
theorem dX1_tells_34 : decode cX1_tells 34 = .ok (.getfield 21, 3) := by decide +kernel
theorem dX1_tells_37 : decode cX1_tells 37 = .ok (.iload 4, 2) := by decide +kernel
theorem dX1_tells_39 : decode cX1_tells 39 = .ok (.iaload, 1) := by decide +kernel
theorem dX1_tells_40 : decode cX1_tells 40 = .ok (.if_icmp .ne 7, 3) := by decide +kernel
theorem dX1_tells_43 : decode cX1_tells 43 = .ok (.iconst 1, 1) := by decide +kernel
theorem dX1_tells_44 : decode cX1_tells 44 = .ok (.goto 4, 3) := by decide +kernel
theorem dX1_tells_47 : decode cX1_tells 47 = .ok (.iconst 0, 1) := by decide +kernel
theorem dX1_tells_48 : decode cX1_tells 48 = .ok (.istore 5, 2) := by decide +kernel
theorem dX1_tells_50 : decode cX1_tells 50 = .ok (.iload 5, 2) := by decide +kernel
theorem dX1_tells_52 : decode cX1_tells 52 = .ok (.ifCond .ne 25, 3) := by decide +kernel
theorem dX1_tells_55 : decode cX1_tells 55 = .ok (.aload_n 0, 1) := by decide +kernel
theorem dX1_tells_56 : decode cX1_tells 56 = .ok (.aload_n 0, 1) := by decide +kernel
theorem dX1_tells_57 : decode cX1_tells 57 = .ok (.getfield 18, 3) := by decide +kernel
theorem dX1_tells_60 : decode cX1_tells 60 = .ok (.iload 4, 2) := by decide +kernel
theorem dX1_tells_62 : decode cX1_tells 62 = .ok (.iaload, 1) := by decide +kernel
theorem dX1_tells_63 : decode cX1_tells 63 = .ok (.aload_n 0, 1) := by decide +kernel
theorem dX1_tells_64 : decode cX1_tells 64 = .ok (.getfield 21, 3) := by decide +kernel
theorem dX1_tells_67 : decode cX1_tells 67 = .ok (.iload 4, 2) := by decide +kernel
theorem dX1_tells_69 : decode cX1_tells 69 = .ok (.iaload, 1) := by decide +kernel
theorem dX1_tells_70 : decode cX1_tells 70 = .ok (.aload_n 2, 1) := by decide +kernel
theorem dX1_tells_71 : decode cX1_tells 71 = .ok (.invokevirtual 43, 3) := by decide +kernel
theorem dX1_tells_74 : decode cX1_tells 74 = .ok (.ifCond .eq 23, 3) := by decide +kernel
theorem dX1_tells_77 : decode cX1_tells 77 = .ok (.aload_n 0, 1) := by decide +kernel
theorem dX1_tells_78 : decode cX1_tells 78 = .ok (.aload_n 0, 1) := by decide +kernel
theorem dX1_tells_79 : decode cX1_tells 79 = .ok (.getfield 15, 3) := by decide +kernel
theorem dX1_tells_82 : decode cX1_tells 82 = .ok (.iload 4, 2) := by decide +kernel
theorem dX1_tells_84 : decode cX1_tells 84 = .ok (.iaload, 1) := by decide +kernel
theorem dX1_tells_85 : decode cX1_tells 85 = .ok (.aload_n 0, 1) := by decide +kernel
theorem dX1_tells_86 : decode cX1_tells 86 = .ok (.getfield 18, 3) := by decide +kernel
theorem dX1_tells_89 : decode cX1_tells 89 = .ok (.iload 4, 2) := by decide +kernel
theorem dX1_tells_91 : decode cX1_tells 91 = .ok (.iaload, 1) := by decide +kernel
theorem dX1_tells_92 : decode cX1_tells 92 = .ok (.aload_n 2, 1) := by decide +kernel
theorem dX1_tells_93 : decode cX1_tells 93 = .ok (.invokevirtual 43, 3) := by decide +kernel
theorem dX1_tells_96 : decode cX1_tells 96 = .ok (.ireturn, 1) := by decide +kernel
theorem dX1_tells_97 : decode cX1_tells 97 = .ok (.iinc 4 1, 3) := by decide +kernel
theorem dX1_tells_100 : decode cX1_tells 100 = .ok (.goto (-97), 3) := by decide +kernel
theorem dX1_tells_103 : decode cX1_tells 103 = .ok (.iload_n 3, 1) := by decide +kernel
theorem dX1_tells_104 : decode cX1_tells 104 = .ok (.ireturn, 1) := by decide +kernel
theorem dX1_value_0 : decode cX1_value 0 = .ok (.iload_n 1, 1) := by decide +kernel
theorem dX1_value_1 : decode cX1_value 1 = .ok (.ifCond .lt 12, 3) := by decide +kernel
theorem dX1_value_4 : decode cX1_value 4 = .ok (.iload_n 2, 1) := by decide +kernel
theorem dX1_value_5 : decode cX1_value 5 = .ok (.aload_n 0, 1) := by decide +kernel
theorem dX1_value_6 : decode cX1_value 6 = .ok (.getfield 24, 3) := by decide +kernel
theorem dX1_value_9 : decode cX1_value 9 = .ok (.arraylength, 1) := by decide +kernel
theorem dX1_value_10 : decode cX1_value 10 = .ok (.if_icmp .le 5, 3) := by decide +kernel
theorem dX1_value_13 : decode cX1_value 13 = .ok (.iconst 0, 1) := by decide +kernel
theorem dX1_value_14 : decode cX1_value 14 = .ok (.ireturn, 1) := by decide +kernel
theorem dX1_value_15 : decode cX1_value 15 = .ok (.iconst 0, 1) := by decide +kernel
theorem dX1_value_16 : decode cX1_value 16 = .ok (.istore 4, 2) := by decide +kernel
theorem dX1_value_18 : decode cX1_value 18 = .ok (.iload_n 1, 1) := by decide +kernel
theorem dX1_value_19 : decode cX1_value 19 = .ok (.istore 5, 2) := by decide +kernel
theorem dX1_value_21 : decode cX1_value 21 = .ok (.iload 5, 2) := by decide +kernel
theorem dX1_value_23 : decode cX1_value 23 = .ok (.iload_n 2, 1) := by decide +kernel
theorem dX1_value_24 : decode cX1_value 24 = .ok (.if_icmp .ge 371, 3) := by decide +kernel
theorem dX1_value_27 : decode cX1_value 27 = .ok (.aload_n 0, 1) := by decide +kernel
theorem dX1_value_28 : decode cX1_value 28 = .ok (.getfield 24, 3) := by decide +kernel
theorem dX1_value_31 : decode cX1_value 31 = .ok (.iload 5, 2) := by decide +kernel
theorem dX1_value_33 : decode cX1_value 33 = .ok (.iaload, 1) := by decide +kernel
theorem dX1_value_34 : decode cX1_value 34 = .ok (.istore 6, 2) := by decide +kernel
theorem dX1_value_36 : decode cX1_value 36 = .ok (.iload 6, 2) := by decide +kernel
theorem dX1_value_38 : decode cX1_value 38 = .ok (.sipush 20000, 3) := by decide +kernel
theorem dX1_value_41 : decode cX1_value 41 = .ok (.if_icmp .ge 54, 3) := by decide +kernel
theorem dX1_value_44 : decode cX1_value 44 = .ok (.iload 6, 2) := by decide +kernel
theorem dX1_value_46 : decode cX1_value 46 = .ok (.sipush 10000, 3) := by decide +kernel
theorem dX1_value_49 : decode cX1_value 49 = .ok (.isub, 1) := by decide +kernel
theorem dX1_value_50 : decode cX1_value 50 = .ok (.istore 7, 2) := by decide +kernel
theorem dX1_value_52 : decode cX1_value 52 = .ok (.iload 4, 2) := by decide +kernel
theorem dX1_value_54 : decode cX1_value 54 = .ok (.bipush 32, 2) := by decide +kernel
theorem dX1_value_56 : decode cX1_value 56 = .ok (.if_icmp .ge 10, 3) := by decide +kernel
theorem dX1_value_59 : decode cX1_value 59 = .ok (.iload 7, 2) := by decide +kernel
theorem dX1_value_61 : decode cX1_value 61 = .ok (.aload_n 3, 1) := by decide +kernel
theorem dX1_value_62 : decode cX1_value 62 = .ok (.arraylength, 1) := by decide +kernel
theorem dX1_value_63 : decode cX1_value 63 = .ok (.if_icmp .lt 5, 3) := by decide +kernel
theorem dX1_value_66 : decode cX1_value 66 = .ok (.iconst 0, 1) := by decide +kernel
theorem dX1_value_67 : decode cX1_value 67 = .ok (.ireturn, 1) := by decide +kernel
theorem dX1_value_68 : decode cX1_value 68 = .ok (.aload_n 0, 1) := by decide +kernel
theorem dX1_value_69 : decode cX1_value 69 = .ok (.getfield 27, 3) := by decide +kernel
theorem dX1_value_72 : decode cX1_value 72 = .ok (.iload 4, 2) := by decide +kernel
theorem dX1_value_74 : decode cX1_value 74 = .ok (.iload 7, 2) := by decide +kernel
theorem dX1_value_76 : decode cX1_value 76 = .ok (.ifCond .ge 8, 3) := by decide +kernel
theorem dX1_value_79 : decode cX1_value 79 = .ok (.iload 6, 2) := by decide +kernel
theorem dX1_value_81 : decode cX1_value 81 = .ok (.goto 7, 3) := by decide +kernel
theorem dX1_value_84 : decode cX1_value 84 = .ok (.aload_n 3, 1) := by decide +kernel
theorem dX1_value_85 : decode cX1_value 85 = .ok (.iload 7, 2) := by decide +kernel
theorem dX1_value_87 : decode cX1_value 87 = .ok (.iaload, 1) := by decide +kernel
theorem dX1_value_88 : decode cX1_value 88 = .ok (.iastore, 1) := by decide +kernel
theorem dX1_value_89 : decode cX1_value 89 = .ok (.iinc 4 1, 3) := by decide +kernel
theorem dX1_value_92 : decode cX1_value 92 = .ok (.goto 297, 3) := by decide +kernel
theorem dX1_value_95 : decode cX1_value 95 = .ok (.iload 6, 2) := by decide +kernel
theorem dX1_value_97 : decode cX1_value 97 = .ok (.sipush 20000, 3) := by decide +kernel
theorem dX1_value_100 : decode cX1_value 100 = .ok (.isub, 1) := by decide +kernel
theorem dX1_value_101 : decode cX1_value 101 = .ok (.istore 7, 2) := by decide +kernel
theorem dX1_value_103 : decode cX1_value 103 = .ok (.iload 4, 2) := by decide +kernel
theorem dX1_value_105 : decode cX1_value 105 = .ok (.iload 7, 2) := by decide +kernel
theorem dX1_value_107 : decode cX1_value 107 = .ok (.bipush 103, 2) := by decide +kernel
theorem dX1_value_109 : decode cX1_value 109 = .ok (.if_icmp .ne 7, 3) := by decide +kernel
theorem dX1_value_112 : decode cX1_value 112 = .ok (.iconst 1, 1) := by decide +kernel
theorem dX1_value_113 : decode cX1_value 113 = .ok (.goto 4, 3) := by decide +kernel
theorem dX1_value_116 : decode cX1_value 116 = .ok (.iconst 2, 1) := by decide +kernel
theorem dX1_value_117 : decode cX1_value 117 = .ok (.if_icmp .ge 5, 3) := by decide +kernel
theorem dX1_value_120 : decode cX1_value 120 = .ok (.iconst 0, 1) := by decide +kernel
theorem dX1_value_121 : decode cX1_value 121 = .ok (.ireturn, 1) := by decide +kernel
theorem dX1_value_122 : decode cX1_value 122 = .ok (.aload_n 0, 1) := by decide +kernel
theorem dX1_value_123 : decode cX1_value 123 = .ok (.getfield 27, 3) := by decide +kernel
theorem dX1_value_126 : decode cX1_value 126 = .ok (.iload 4, 2) := by decide +kernel
theorem dX1_value_128 : decode cX1_value 128 = .ok (.iconst 1, 1) := by decide +kernel
theorem dX1_value_129 : decode cX1_value 129 = .ok (.isub, 1) := by decide +kernel
theorem dX1_value_130 : decode cX1_value 130 = .ok (.iaload, 1) := by decide +kernel
theorem dX1_value_131 : decode cX1_value 131 = .ok (.istore 8, 2) := by decide +kernel
theorem dX1_value_133 : decode cX1_value 133 = .ok (.iload 7, 2) := by decide +kernel
theorem dX1_value_135 : decode cX1_value 135 = .ok (.bipush 103, 2) := by decide +kernel
theorem dX1_value_137 : decode cX1_value 137 = .ok (.if_icmp .ne 19, 3) := by decide +kernel
theorem dX1_value_140 : decode cX1_value 140 = .ok (.aload_n 0, 1) := by decide +kernel
theorem dX1_value_141 : decode cX1_value 141 = .ok (.getfield 27, 3) := by decide +kernel
theorem dX1_value_144 : decode cX1_value 144 = .ok (.iload 4, 2) := by decide +kernel
theorem dX1_value_146 : decode cX1_value 146 = .ok (.iconst 1, 1) := by decide +kernel
theorem dX1_value_147 : decode cX1_value 147 = .ok (.isub, 1) := by decide +kernel
theorem dX1_value_148 : decode cX1_value 148 = .ok (.iconst 1, 1) := by decide +kernel
theorem dX1_value_149 : decode cX1_value 149 = .ok (.iload 8, 2) := by decide +kernel
theorem dX1_value_151 : decode cX1_value 151 = .ok (.isub, 1) := by decide +kernel
theorem dX1_value_152 : decode cX1_value 152 = .ok (.iastore, 1) := by decide +kernel
theorem dX1_value_153 : decode cX1_value 153 = .ok (.goto 236, 3) := by decide +kernel
theorem dX1_value_156 : decode cX1_value 156 = .ok (.iinc 4 (-1), 3) := by decide +kernel
theorem dX1_value_159 : decode cX1_value 159 = .ok (.aload_n 0, 1) := by decide +kernel
theorem dX1_value_160 : decode cX1_value 160 = .ok (.getfield 27, 3) := by decide +kernel
theorem dX1_value_163 : decode cX1_value 163 = .ok (.iload 4, 2) := by decide +kernel
theorem dX1_value_165 : decode cX1_value 165 = .ok (.iconst 1, 1) := by decide +kernel
theorem dX1_value_166 : decode cX1_value 166 = .ok (.isub, 1) := by decide +kernel
theorem dX1_value_167 : decode cX1_value 167 = .ok (.iaload, 1) := by decide +kernel
theorem dX1_value_168 : decode cX1_value 168 = .ok (.istore 9, 2) := by decide +kernel
theorem dX1_value_170 : decode cX1_value 170 = .ok (.iconst 0, 1) := by decide +kernel
theorem dX1_value_171 : decode cX1_value 171 = .ok (.istore 10, 2) := by decide +kernel
theorem dX1_value_173 : decode cX1_value 173 = .ok (.iload 7, 2) := by decide +kernel
theorem dX1_value_175 : decode cX1_value 175 = .ok (.lookupswitch 201 #[(42, 101), (43, 81), (45, 91), (47, 111), (60, 130), (61, 147), (62, 164), (101, 191), (102, 181)], 81) := by decide +kernel
theorem dX1_value_256 : decode cX1_value 256 = .ok (.iload 9, 2) := by decide +kernel
theorem dX1_value_258 : decode cX1_value 258 = .ok (.iload 8, 2) := by decide +kernel
theorem dX1_value_260 : decode cX1_value 260 = .ok (.iadd, 1) := by decide +kernel
theorem dX1_value_261 : decode cX1_value 261 = .ok (.istore 10, 2) := by decide +kernel
theorem dX1_value_263 : decode cX1_value 263 = .ok (.goto 115, 3) := by decide +kernel
theorem dX1_value_266 : decode cX1_value 266 = .ok (.iload 9, 2) := by decide +kernel
theorem dX1_value_268 : decode cX1_value 268 = .ok (.iload 8, 2) := by decide +kernel
theorem dX1_value_270 : decode cX1_value 270 = .ok (.isub, 1) := by decide +kernel
theorem dX1_value_271 : decode cX1_value 271 = .ok (.istore 10, 2) := by decide +kernel
theorem dX1_value_273 : decode cX1_value 273 = .ok (.goto 105, 3) := by decide +kernel
theorem dX1_value_276 : decode cX1_value 276 = .ok (.iload 9, 2) := by decide +kernel
theorem dX1_value_278 : decode cX1_value 278 = .ok (.iload 8, 2) := by decide +kernel
theorem dX1_value_280 : decode cX1_value 280 = .ok (.imul, 1) := by decide +kernel
theorem dX1_value_281 : decode cX1_value 281 = .ok (.istore 10, 2) := by decide +kernel
theorem dX1_value_283 : decode cX1_value 283 = .ok (.goto 95, 3) := by decide +kernel
theorem dX1_value_286 : decode cX1_value 286 = .ok (.iload 8, 2) := by decide +kernel
theorem dX1_value_288 : decode cX1_value 288 = .ok (.ifCond .ne 7, 3) := by decide +kernel
theorem dX1_value_291 : decode cX1_value 291 = .ok (.iconst 0, 1) := by decide +kernel
theorem dX1_value_292 : decode cX1_value 292 = .ok (.goto 8, 3) := by decide +kernel
theorem dX1_value_295 : decode cX1_value 295 = .ok (.iload 9, 2) := by decide +kernel
theorem dX1_value_297 : decode cX1_value 297 = .ok (.iload 8, 2) := by decide +kernel
theorem dX1_value_299 : decode cX1_value 299 = .ok (.idiv, 1) := by decide +kernel
theorem dX1_value_300 : decode cX1_value 300 = .ok (.istore 10, 2) := by decide +kernel
theorem dX1_value_302 : decode cX1_value 302 = .ok (.goto 76, 3) := by decide +kernel
theorem dX1_value_305 : decode cX1_value 305 = .ok (.iload 9, 2) := by decide +kernel
theorem dX1_value_307 : decode cX1_value 307 = .ok (.iload 8, 2) := by decide +kernel
theorem dX1_value_309 : decode cX1_value 309 = .ok (.if_icmp .ge 7, 3) := by decide +kernel
theorem dX1_value_312 : decode cX1_value 312 = .ok (.iconst 1, 1) := by decide +kernel
theorem dX1_value_313 : decode cX1_value 313 = .ok (.goto 4, 3) := by decide +kernel
theorem dX1_value_316 : decode cX1_value 316 = .ok (.iconst 0, 1) := by decide +kernel
theorem dX1_value_317 : decode cX1_value 317 = .ok (.istore 10, 2) := by decide +kernel
theorem dX1_value_319 : decode cX1_value 319 = .ok (.goto 59, 3) := by decide +kernel
theorem dX1_value_322 : decode cX1_value 322 = .ok (.iload 9, 2) := by decide +kernel
theorem dX1_value_324 : decode cX1_value 324 = .ok (.iload 8, 2) := by decide +kernel
theorem dX1_value_326 : decode cX1_value 326 = .ok (.if_icmp .ne 7, 3) := by decide +kernel
theorem dX1_value_329 : decode cX1_value 329 = .ok (.iconst 1, 1) := by decide +kernel
theorem dX1_value_330 : decode cX1_value 330 = .ok (.goto 4, 3) := by decide +kernel
theorem dX1_value_333 : decode cX1_value 333 = .ok (.iconst 0, 1) := by decide +kernel
theorem dX1_value_334 : decode cX1_value 334 = .ok (.istore 10, 2) := by decide +kernel
theorem dX1_value_336 : decode cX1_value 336 = .ok (.goto 42, 3) := by decide +kernel
theorem dX1_value_339 : decode cX1_value 339 = .ok (.iload 9, 2) := by decide +kernel
theorem dX1_value_341 : decode cX1_value 341 = .ok (.iload 8, 2) := by decide +kernel
theorem dX1_value_343 : decode cX1_value 343 = .ok (.if_icmp .le 7, 3) := by decide +kernel
theorem dX1_value_346 : decode cX1_value 346 = .ok (.iconst 1, 1) := by decide +kernel
theorem dX1_value_347 : decode cX1_value 347 = .ok (.goto 4, 3) := by decide +kernel
theorem dX1_value_350 : decode cX1_value 350 = .ok (.iconst 0, 1) := by decide +kernel
theorem dX1_value_351 : decode cX1_value 351 = .ok (.istore 10, 2) := by decide +kernel
theorem dX1_value_353 : decode cX1_value 353 = .ok (.goto 25, 3) := by decide +kernel
theorem dX1_value_356 : decode cX1_value 356 = .ok (.iload 9, 2) := by decide +kernel
theorem dX1_value_358 : decode cX1_value 358 = .ok (.iload 8, 2) := by decide +kernel
theorem dX1_value_360 : decode cX1_value 360 = .ok (.iand, 1) := by decide +kernel
theorem dX1_value_361 : decode cX1_value 361 = .ok (.istore 10, 2) := by decide +kernel
theorem dX1_value_363 : decode cX1_value 363 = .ok (.goto 15, 3) := by decide +kernel
theorem dX1_value_366 : decode cX1_value 366 = .ok (.iload 9, 2) := by decide +kernel
theorem dX1_value_368 : decode cX1_value 368 = .ok (.iload 8, 2) := by decide +kernel
theorem dX1_value_370 : decode cX1_value 370 = .ok (.ior, 1) := by decide +kernel
theorem dX1_value_371 : decode cX1_value 371 = .ok (.istore 10, 2) := by decide +kernel
theorem dX1_value_373 : decode cX1_value 373 = .ok (.goto 5, 3) := by decide +kernel
theorem dX1_value_376 : decode cX1_value 376 = .ok (.iconst 0, 1) := by decide +kernel
theorem dX1_value_377 : decode cX1_value 377 = .ok (.ireturn, 1) := by decide +kernel
theorem dX1_value_378 : decode cX1_value 378 = .ok (.aload_n 0, 1) := by decide +kernel
theorem dX1_value_379 : decode cX1_value 379 = .ok (.getfield 27, 3) := by decide +kernel
theorem dX1_value_382 : decode cX1_value 382 = .ok (.iload 4, 2) := by decide +kernel
theorem dX1_value_384 : decode cX1_value 384 = .ok (.iconst 1, 1) := by decide +kernel
theorem dX1_value_385 : decode cX1_value 385 = .ok (.isub, 1) := by decide +kernel
theorem dX1_value_386 : decode cX1_value 386 = .ok (.iload 10, 2) := by decide +kernel
theorem dX1_value_388 : decode cX1_value 388 = .ok (.iastore, 1) := by decide +kernel
theorem dX1_value_389 : decode cX1_value 389 = .ok (.iinc 5 1, 3) := by decide +kernel
theorem dX1_value_392 : decode cX1_value 392 = .ok (.goto (-371), 3) := by decide +kernel
theorem dX1_value_395 : decode cX1_value 395 = .ok (.iload 4, 2) := by decide +kernel
theorem dX1_value_397 : decode cX1_value 397 = .ok (.iconst 1, 1) := by decide +kernel
theorem dX1_value_398 : decode cX1_value 398 = .ok (.if_icmp .ge 7, 3) := by decide +kernel
theorem dX1_value_401 : decode cX1_value 401 = .ok (.iconst 0, 1) := by decide +kernel
theorem dX1_value_402 : decode cX1_value 402 = .ok (.goto 9, 3) := by decide +kernel
theorem dX1_value_405 : decode cX1_value 405 = .ok (.aload_n 0, 1) := by decide +kernel
theorem dX1_value_406 : decode cX1_value 406 = .ok (.getfield 27, 3) := by decide +kernel
theorem dX1_value_409 : decode cX1_value 409 = .ok (.iconst 0, 1) := by decide +kernel
theorem dX1_value_410 : decode cX1_value 410 = .ok (.iaload, 1) := by decide +kernel
theorem dX1_value_411 : decode cX1_value 411 = .ok (.ireturn, 1) := by decide +kernel
theorem dX2_init_0 : decode cX2_init 0 = .ok (.aload_n 0, 1) := by decide +kernel
theorem dX2_init_1 : decode cX2_init 1 = .ok (.invokespecial 3, 3) := by decide +kernel
theorem dX2_init_4 : decode cX2_init 4 = .ok (.aload_n 0, 1) := by decide +kernel
theorem dX2_init_5 : decode cX2_init 5 = .ok (.bipush 10, 2) := by decide +kernel
theorem dX2_init_7 : decode cX2_init 7 = .ok (.newarray .int, 2) := by decide +kernel
theorem dX2_init_9 : decode cX2_init 9 = .ok (.putfield 9, 3) := by decide +kernel
theorem dX2_init_12 : decode cX2_init 12 = .ok (.aload_n 0, 1) := by decide +kernel
theorem dX2_init_13 : decode cX2_init 13 = .ok (.bipush 60, 2) := by decide +kernel
theorem dX2_init_15 : decode cX2_init 15 = .ok (.newarray .int, 2) := by decide +kernel
theorem dX2_init_17 : decode cX2_init 17 = .ok (.putfield 15, 3) := by decide +kernel
theorem dX2_init_20 : decode cX2_init 20 = .ok (.aload_n 0, 1) := by decide +kernel
theorem dX2_init_21 : decode cX2_init 21 = .ok (.bipush 60, 2) := by decide +kernel
theorem dX2_init_23 : decode cX2_init 23 = .ok (.newarray .int, 2) := by decide +kernel
theorem dX2_init_25 : decode cX2_init 25 = .ok (.putfield 18, 3) := by decide +kernel
theorem dX2_init_28 : decode cX2_init 28 = .ok (.return_, 1) := by decide +kernel
theorem dX2_become_0 : decode cX2_become 0 = .ok (.aload_n 0, 1) := by decide +kernel
theorem dX2_become_1 : decode cX2_become 1 = .ok (.aload_n 1, 1) := by decide +kernel
theorem dX2_become_2 : decode cX2_become 2 = .ok (.getfield 21, 3) := by decide +kernel
theorem dX2_become_5 : decode cX2_become 5 = .ok (.putfield 21, 3) := by decide +kernel
theorem dX2_become_8 : decode cX2_become 8 = .ok (.aload_n 1, 1) := by decide +kernel
theorem dX2_become_9 : decode cX2_become 9 = .ok (.getfield 9, 3) := by decide +kernel
theorem dX2_become_12 : decode cX2_become 12 = .ok (.iconst 0, 1) := by decide +kernel
theorem dX2_become_13 : decode cX2_become 13 = .ok (.aload_n 0, 1) := by decide +kernel
theorem dX2_become_14 : decode cX2_become 14 = .ok (.getfield 9, 3) := by decide +kernel
theorem dX2_become_17 : decode cX2_become 17 = .ok (.iconst 0, 1) := by decide +kernel
theorem dX2_become_18 : decode cX2_become 18 = .ok (.bipush 10, 2) := by decide +kernel
theorem dX2_become_20 : decode cX2_become 20 = .ok (.invokestatic 25, 3) := by decide +kernel
theorem dX2_become_23 : decode cX2_become 23 = .ok (.aload_n 1, 1) := by decide +kernel
theorem dX2_become_24 : decode cX2_become 24 = .ok (.getfield 15, 3) := by decide +kernel
theorem dX2_become_27 : decode cX2_become 27 = .ok (.iconst 0, 1) := by decide +kernel
theorem dX2_become_28 : decode cX2_become 28 = .ok (.aload_n 0, 1) := by decide +kernel
theorem dX2_become_29 : decode cX2_become 29 = .ok (.getfield 15, 3) := by decide +kernel
theorem dX2_become_32 : decode cX2_become 32 = .ok (.iconst 0, 1) := by decide +kernel
theorem dX2_become_33 : decode cX2_become 33 = .ok (.aload_n 0, 1) := by decide +kernel
theorem dX2_become_34 : decode cX2_become 34 = .ok (.getfield 15, 3) := by decide +kernel
theorem dX2_become_37 : decode cX2_become 37 = .ok (.arraylength, 1) := by decide +kernel
theorem dX2_become_38 : decode cX2_become 38 = .ok (.invokestatic 25, 3) := by decide +kernel
theorem dX2_become_41 : decode cX2_become 41 = .ok (.aload_n 1, 1) := by decide +kernel
theorem dX2_become_42 : decode cX2_become 42 = .ok (.getfield 18, 3) := by decide +kernel
theorem dX2_become_45 : decode cX2_become 45 = .ok (.iconst 0, 1) := by decide +kernel
theorem dX2_become_46 : decode cX2_become 46 = .ok (.aload_n 0, 1) := by decide +kernel
theorem dX2_become_47 : decode cX2_become 47 = .ok (.getfield 18, 3) := by decide +kernel
theorem dX2_become_50 : decode cX2_become 50 = .ok (.iconst 0, 1) := by decide +kernel
theorem dX2_become_51 : decode cX2_become 51 = .ok (.aload_n 0, 1) := by decide +kernel
theorem dX2_become_52 : decode cX2_become 52 = .ok (.getfield 18, 3) := by decide +kernel
theorem dX2_become_55 : decode cX2_become 55 = .ok (.arraylength, 1) := by decide +kernel
theorem dX2_become_56 : decode cX2_become 56 = .ok (.invokestatic 25, 3) := by decide +kernel
theorem dX2_become_59 : decode cX2_become 59 = .ok (.return_, 1) := by decide +kernel
theorem dX2_open_0 : decode cX2_open 0 = .ok (.aload_n 0, 1) := by decide +kernel
theorem dX2_open_1 : decode cX2_open 1 = .ok (.getfield 21, 3) := by decide +kernel
theorem dX2_open_4 : decode cX2_open 4 = .ok (.bipush 10, 2) := by decide +kernel
theorem dX2_open_6 : decode cX2_open 6 = .ok (.if_icmp .ge 23, 3) := by decide +kernel
theorem dX2_open_9 : decode cX2_open 9 = .ok (.aload_n 0, 1) := by decide +kernel
theorem dX2_open_10 : decode cX2_open 10 = .ok (.getfield 9, 3) := by decide +kernel
theorem dX2_open_13 : decode cX2_open 13 = .ok (.aload_n 0, 1) := by decide +kernel
theorem dX2_open_14 : decode cX2_open 14 = .ok (.getfield 21, 3) := by decide +kernel
theorem dX2_open_17 : decode cX2_open 17 = .ok (.iconst 0, 1) := by decide +kernel
theorem dX2_open_18 : decode cX2_open 18 = .ok (.iastore, 1) := by decide +kernel
theorem dX2_open_19 : decode cX2_open 19 = .ok (.aload_n 0, 1) := by decide +kernel
theorem dX2_open_20 : decode cX2_open 20 = .ok (.dup, 1) := by decide +kernel
theorem dX2_open_21 : decode cX2_open 21 = .ok (.getfield 21, 3) := by decide +kernel
theorem dX2_open_24 : decode cX2_open 24 = .ok (.iconst 1, 1) := by decide +kernel
theorem dX2_open_25 : decode cX2_open 25 = .ok (.iadd, 1) := by decide +kernel
theorem dX2_open_26 : decode cX2_open 26 = .ok (.putfield 21, 3) := by decide +kernel
theorem dX2_open_29 : decode cX2_open 29 = .ok (.return_, 1) := by decide +kernel
theorem dX2_addWording_0 : decode cX2_addWording 0 = .ok (.aload_n 0, 1) := by decide +kernel
theorem dX2_addWording_1 : decode cX2_addWording 1 = .ok (.getfield 21, 3) := by decide +kernel
theorem dX2_addWording_4 : decode cX2_addWording 4 = .ok (.iconst 1, 1) := by decide +kernel
theorem dX2_addWording_5 : decode cX2_addWording 5 = .ok (.isub, 1) := by decide +kernel
theorem dX2_addWording_6 : decode cX2_addWording 6 = .ok (.istore_n 3, 1) := by decide +kernel
theorem dX2_addWording_7 : decode cX2_addWording 7 = .ok (.iload_n 3, 1) := by decide +kernel
theorem dX2_addWording_8 : decode cX2_addWording 8 = .ok (.ifCond .lt 14, 3) := by decide +kernel
theorem dX2_addWording_11 : decode cX2_addWording 11 = .ok (.aload_n 0, 1) := by decide +kernel
theorem dX2_addWording_12 : decode cX2_addWording 12 = .ok (.getfield 9, 3) := by decide +kernel
theorem dX2_addWording_15 : decode cX2_addWording 15 = .ok (.iload_n 3, 1) := by decide +kernel
theorem dX2_addWording_16 : decode cX2_addWording 16 = .ok (.iaload, 1) := by decide +kernel
theorem dX2_addWording_17 : decode cX2_addWording 17 = .ok (.bipush 6, 2) := by decide +kernel
theorem dX2_addWording_19 : decode cX2_addWording 19 = .ok (.if_icmp .lt 5, 3) := by decide +kernel
theorem dX2_addWording_22 : decode cX2_addWording 22 = .ok (.iconst 0, 1) := by decide +kernel
theorem dX2_addWording_23 : decode cX2_addWording 23 = .ok (.ireturn, 1) := by decide +kernel
theorem dX2_addWording_24 : decode cX2_addWording 24 = .ok (.iload_n 3, 1) := by decide +kernel
theorem dX2_addWording_25 : decode cX2_addWording 25 = .ok (.bipush 6, 2) := by decide +kernel
theorem dX2_addWording_27 : decode cX2_addWording 27 = .ok (.imul, 1) := by decide +kernel
theorem dX2_addWording_28 : decode cX2_addWording 28 = .ok (.aload_n 0, 1) := by decide +kernel
theorem dX2_addWording_29 : decode cX2_addWording 29 = .ok (.getfield 9, 3) := by decide +kernel
theorem dX2_addWording_32 : decode cX2_addWording 32 = .ok (.iload_n 3, 1) := by decide +kernel
theorem dX2_addWording_33 : decode cX2_addWording 33 = .ok (.iaload, 1) := by decide +kernel
theorem dX2_addWording_34 : decode cX2_addWording 34 = .ok (.iadd, 1) := by decide +kernel
theorem dX2_addWording_35 : decode cX2_addWording 35 = .ok (.istore 4, 2) := by decide +kernel
theorem dX2_addWording_37 : decode cX2_addWording 37 = .ok (.aload_n 0, 1) := by decide +kernel
theorem dX2_addWording_38 : decode cX2_addWording 38 = .ok (.getfield 15, 3) := by decide +kernel
theorem dX2_addWording_41 : decode cX2_addWording 41 = .ok (.iload 4, 2) := by decide +kernel
theorem dX2_addWording_43 : decode cX2_addWording 43 = .ok (.iload_n 1, 1) := by decide +kernel
theorem dX2_addWording_44 : decode cX2_addWording 44 = .ok (.iastore, 1) := by decide +kernel
theorem dX2_addWording_45 : decode cX2_addWording 45 = .ok (.aload_n 0, 1) := by decide +kernel
theorem dX2_addWording_46 : decode cX2_addWording 46 = .ok (.getfield 18, 3) := by decide +kernel
theorem dX2_addWording_49 : decode cX2_addWording 49 = .ok (.iload 4, 2) := by decide +kernel
theorem dX2_addWording_51 : decode cX2_addWording 51 = .ok (.iload_n 2, 1) := by decide +kernel
theorem dX2_addWording_52 : decode cX2_addWording 52 = .ok (.iastore, 1) := by decide +kernel
theorem dX2_addWording_53 : decode cX2_addWording 53 = .ok (.aload_n 0, 1) := by decide +kernel
theorem dX2_addWording_54 : decode cX2_addWording 54 = .ok (.getfield 9, 3) := by decide +kernel
theorem dX2_addWording_57 : decode cX2_addWording 57 = .ok (.iload_n 3, 1) := by decide +kernel
theorem dX2_addWording_58 : decode cX2_addWording 58 = .ok (.dup2, 1) := by decide +kernel
theorem dX2_addWording_59 : decode cX2_addWording 59 = .ok (.iaload, 1) := by decide +kernel
theorem dX2_addWording_60 : decode cX2_addWording 60 = .ok (.iconst 1, 1) := by decide +kernel
theorem dX2_addWording_61 : decode cX2_addWording 61 = .ok (.iadd, 1) := by decide +kernel
theorem dX2_addWording_62 : decode cX2_addWording 62 = .ok (.iastore, 1) := by decide +kernel
theorem dX2_addWording_63 : decode cX2_addWording 63 = .ok (.iconst 1, 1) := by decide +kernel
theorem dX2_addWording_64 : decode cX2_addWording 64 = .ok (.ireturn, 1) := by decide +kernel
theorem dX2_isLatestFull_0 : decode cX2_isLatestFull 0 = .ok (.aload_n 0, 1) := by decide +kernel
theorem dX2_isLatestFull_1 : decode cX2_isLatestFull 1 = .ok (.getfield 21, 3) := by decide +kernel
theorem dX2_isLatestFull_4 : decode cX2_isLatestFull 4 = .ok (.iconst 1, 1) := by decide +kernel
theorem dX2_isLatestFull_5 : decode cX2_isLatestFull 5 = .ok (.if_icmp .lt 19, 3) := by decide +kernel
theorem dX2_isLatestFull_8 : decode cX2_isLatestFull 8 = .ok (.aload_n 0, 1) := by decide +kernel
theorem dX2_isLatestFull_9 : decode cX2_isLatestFull 9 = .ok (.getfield 9, 3) := by decide +kernel
theorem dX2_isLatestFull_12 : decode cX2_isLatestFull 12 = .ok (.aload_n 0, 1) := by decide +kernel
theorem dX2_isLatestFull_13 : decode cX2_isLatestFull 13 = .ok (.getfield 21, 3) := by decide +kernel
theorem dX2_isLatestFull_16 : decode cX2_isLatestFull 16 = .ok (.iconst 1, 1) := by decide +kernel
theorem dX2_isLatestFull_17 : decode cX2_isLatestFull 17 = .ok (.isub, 1) := by decide +kernel
theorem dX2_isLatestFull_18 : decode cX2_isLatestFull 18 = .ok (.iaload, 1) := by decide +kernel
theorem dX2_isLatestFull_19 : decode cX2_isLatestFull 19 = .ok (.bipush 6, 2) := by decide +kernel
theorem dX2_isLatestFull_21 : decode cX2_isLatestFull 21 = .ok (.if_icmp .lt 7, 3) := by decide +kernel
theorem dX2_isLatestFull_24 : decode cX2_isLatestFull 24 = .ok (.iconst 1, 1) := by decide +kernel
theorem dX2_isLatestFull_25 : decode cX2_isLatestFull 25 = .ok (.goto 4, 3) := by decide +kernel
theorem dX2_isLatestFull_28 : decode cX2_isLatestFull 28 = .ok (.iconst 0, 1) := by decide +kernel
theorem dX2_isLatestFull_29 : decode cX2_isLatestFull 29 = .ok (.ireturn, 1) := by decide +kernel
theorem dX2_sayableWith_0 : decode cX2_sayableWith 0 = .ok (.iconst 0, 1) := by decide +kernel
theorem dX2_sayableWith_1 : decode cX2_sayableWith 1 = .ok (.istore_n 2, 1) := by decide +kernel
theorem dX2_sayableWith_2 : decode cX2_sayableWith 2 = .ok (.iconst 0, 1) := by decide +kernel
theorem dX2_sayableWith_3 : decode cX2_sayableWith 3 = .ok (.istore_n 3, 1) := by decide +kernel
theorem dX2_sayableWith_4 : decode cX2_sayableWith 4 = .ok (.iload_n 3, 1) := by decide +kernel
theorem dX2_sayableWith_5 : decode cX2_sayableWith 5 = .ok (.aload_n 0, 1) := by decide +kernel
theorem dX2_sayableWith_6 : decode cX2_sayableWith 6 = .ok (.getfield 21, 3) := by decide +kernel
theorem dX2_sayableWith_9 : decode cX2_sayableWith 9 = .ok (.if_icmp .ge 54, 3) := by decide +kernel
theorem dX2_sayableWith_12 : decode cX2_sayableWith 12 = .ok (.iconst 0, 1) := by decide +kernel
theorem dX2_sayableWith_13 : decode cX2_sayableWith 13 = .ok (.istore 4, 2) := by decide +kernel
theorem dX2_sayableWith_15 : decode cX2_sayableWith 15 = .ok (.iload 4, 2) := by decide +kernel
theorem dX2_sayableWith_17 : decode cX2_sayableWith 17 = .ok (.aload_n 0, 1) := by decide +kernel
theorem dX2_sayableWith_18 : decode cX2_sayableWith 18 = .ok (.getfield 9, 3) := by decide +kernel
theorem dX2_sayableWith_21 : decode cX2_sayableWith 21 = .ok (.iload_n 3, 1) := by decide +kernel
theorem dX2_sayableWith_22 : decode cX2_sayableWith 22 = .ok (.iaload, 1) := by decide +kernel
theorem dX2_sayableWith_23 : decode cX2_sayableWith 23 = .ok (.if_icmp .ge 34, 3) := by decide +kernel
theorem dX2_sayableWith_26 : decode cX2_sayableWith 26 = .ok (.aload_n 0, 1) := by decide +kernel
theorem dX2_sayableWith_27 : decode cX2_sayableWith 27 = .ok (.getfield 15, 3) := by decide +kernel
theorem dX2_sayableWith_30 : decode cX2_sayableWith 30 = .ok (.iload_n 3, 1) := by decide +kernel
theorem dX2_sayableWith_31 : decode cX2_sayableWith 31 = .ok (.bipush 6, 2) := by decide +kernel
theorem dX2_sayableWith_33 : decode cX2_sayableWith 33 = .ok (.imul, 1) := by decide +kernel
theorem dX2_sayableWith_34 : decode cX2_sayableWith 34 = .ok (.iload 4, 2) := by decide +kernel
theorem dX2_sayableWith_36 : decode cX2_sayableWith 36 = .ok (.iadd, 1) := by decide +kernel
theorem dX2_sayableWith_37 : decode cX2_sayableWith 37 = .ok (.iaload, 1) := by decide +kernel
theorem dX2_sayableWith_38 : decode cX2_sayableWith 38 = .ok (.iload_n 1, 1) := by decide +kernel
theorem dX2_sayableWith_39 : decode cX2_sayableWith 39 = .ok (.iconst (-1), 1) := by decide +kernel
theorem dX2_sayableWith_40 : decode cX2_sayableWith 40 = .ok (.ixor, 1) := by decide +kernel
theorem dX2_sayableWith_41 : decode cX2_sayableWith 41 = .ok (.iand, 1) := by decide +kernel
theorem dX2_sayableWith_42 : decode cX2_sayableWith 42 = .ok (.ifCond .ne 9, 3) := by decide +kernel
theorem dX2_sayableWith_45 : decode cX2_sayableWith 45 = .ok (.iload_n 2, 1) := by decide +kernel
theorem dX2_sayableWith_46 : decode cX2_sayableWith 46 = .ok (.iconst 1, 1) := by decide +kernel
theorem dX2_sayableWith_47 : decode cX2_sayableWith 47 = .ok (.iload_n 3, 1) := by decide +kernel
theorem dX2_sayableWith_48 : decode cX2_sayableWith 48 = .ok (.ishl, 1) := by decide +kernel
theorem dX2_sayableWith_49 : decode cX2_sayableWith 49 = .ok (.ior, 1) := by decide +kernel
theorem dX2_sayableWith_50 : decode cX2_sayableWith 50 = .ok (.istore_n 2, 1) := by decide +kernel
theorem dX2_sayableWith_51 : decode cX2_sayableWith 51 = .ok (.iinc 4 1, 3) := by decide +kernel
theorem dX2_sayableWith_54 : decode cX2_sayableWith 54 = .ok (.goto (-39), 3) := by decide +kernel
theorem dX2_sayableWith_57 : decode cX2_sayableWith 57 = .ok (.iinc 3 1, 3) := by decide +kernel
theorem dX2_sayableWith_60 : decode cX2_sayableWith 60 = .ok (.goto (-56), 3) := by decide +kernel
theorem dX2_sayableWith_63 : decode cX2_sayableWith 63 = .ok (.iload_n 2, 1) := by decide +kernel
theorem dX2_sayableWith_64 : decode cX2_sayableWith 64 = .ok (.ireturn, 1) := by decide +kernel
theorem dX3_init_0 : decode cX3_init 0 = .ok (.aload_n 0, 1) := by decide +kernel
theorem dX3_init_1 : decode cX3_init 1 = .ok (.invokespecial 3, 3) := by decide +kernel
theorem dX3_init_4 : decode cX3_init 4 = .ok (.aload_n 0, 1) := by decide +kernel
theorem dX3_init_5 : decode cX3_init 5 = .ok (.bipush 6, 2) := by decide +kernel
theorem dX3_init_7 : decode cX3_init 7 = .ok (.anewarray 9, 3) := by decide +kernel
theorem dX3_init_10 : decode cX3_init 10 = .ok (.putfield 11, 3) := by decide +kernel
theorem dX3_init_13 : decode cX3_init 13 = .ok (.aload_n 0, 1) := by decide +kernel
theorem dX3_init_14 : decode cX3_init 14 = .ok (.bipush 6, 2) := by decide +kernel
theorem dX3_init_16 : decode cX3_init 16 = .ok (.newarray .int, 2) := by decide +kernel
theorem dX3_init_18 : decode cX3_init 18 = .ok (.putfield 17, 3) := by decide +kernel
theorem dX3_init_21 : decode cX3_init 21 = .ok (.iconst 0, 1) := by decide +kernel
theorem dX3_init_22 : decode cX3_init 22 = .ok (.istore_n 1, 1) := by decide +kernel
theorem dX3_init_23 : decode cX3_init 23 = .ok (.iload_n 1, 1) := by decide +kernel
theorem dX3_init_24 : decode cX3_init 24 = .ok (.bipush 6, 2) := by decide +kernel
theorem dX3_init_26 : decode cX3_init 26 = .ok (.if_icmp .ge 22, 3) := by decide +kernel
theorem dX3_init_29 : decode cX3_init 29 = .ok (.aload_n 0, 1) := by decide +kernel
theorem dX3_init_30 : decode cX3_init 30 = .ok (.getfield 11, 3) := by decide +kernel
theorem dX3_init_33 : decode cX3_init 33 = .ok (.iload_n 1, 1) := by decide +kernel
theorem dX3_init_34 : decode cX3_init 34 = .ok (.new 9, 3) := by decide +kernel
theorem dX3_init_37 : decode cX3_init 37 = .ok (.dup, 1) := by decide +kernel
theorem dX3_init_38 : decode cX3_init 38 = .ok (.invokespecial 21, 3) := by decide +kernel
theorem dX3_init_41 : decode cX3_init 41 = .ok (.aastore, 1) := by decide +kernel
theorem dX3_init_42 : decode cX3_init 42 = .ok (.iinc 1 1, 3) := by decide +kernel
theorem dX3_init_45 : decode cX3_init 45 = .ok (.goto (-22), 3) := by decide +kernel
theorem dX3_init_48 : decode cX3_init 48 = .ok (.return_, 1) := by decide +kernel
theorem dX3_keep_0 : decode cX3_keep 0 = .ok (.aload_n 0, 1) := by decide +kernel
theorem dX3_keep_1 : decode cX3_keep 1 = .ok (.aload_n 0, 1) := by decide +kernel
theorem dX3_keep_2 : decode cX3_keep 2 = .ok (.getfield 22, 3) := by decide +kernel
theorem dX3_keep_5 : decode cX3_keep 5 = .ok (.iconst 1, 1) := by decide +kernel
theorem dX3_keep_6 : decode cX3_keep 6 = .ok (.iadd, 1) := by decide +kernel
theorem dX3_keep_7 : decode cX3_keep 7 = .ok (.bipush 6, 2) := by decide +kernel
theorem dX3_keep_9 : decode cX3_keep 9 = .ok (.irem, 1) := by decide +kernel
theorem dX3_keep_10 : decode cX3_keep 10 = .ok (.putfield 22, 3) := by decide +kernel
theorem dX3_keep_13 : decode cX3_keep 13 = .ok (.aload_n 0, 1) := by decide +kernel
theorem dX3_keep_14 : decode cX3_keep 14 = .ok (.getfield 11, 3) := by decide +kernel
theorem dX3_keep_17 : decode cX3_keep 17 = .ok (.aload_n 0, 1) := by decide +kernel
theorem dX3_keep_18 : decode cX3_keep 18 = .ok (.getfield 22, 3) := by decide +kernel
theorem dX3_keep_21 : decode cX3_keep 21 = .ok (.aaload, 1) := by decide +kernel
theorem dX3_keep_22 : decode cX3_keep 22 = .ok (.aload_n 1, 1) := by decide +kernel
theorem dX3_keep_23 : decode cX3_keep 23 = .ok (.getfield 26, 3) := by decide +kernel
theorem dX3_keep_26 : decode cX3_keep 26 = .ok (.invokevirtual 32, 3) := by decide +kernel
theorem dX3_keep_29 : decode cX3_keep 29 = .ok (.aload_n 0, 1) := by decide +kernel
theorem dX3_keep_30 : decode cX3_keep 30 = .ok (.getfield 17, 3) := by decide +kernel
theorem dX3_keep_33 : decode cX3_keep 33 = .ok (.aload_n 0, 1) := by decide +kernel
theorem dX3_keep_34 : decode cX3_keep 34 = .ok (.getfield 22, 3) := by decide +kernel
theorem dX3_keep_37 : decode cX3_keep 37 = .ok (.aload_n 1, 1) := by decide +kernel
theorem dX3_keep_38 : decode cX3_keep 38 = .ok (.getfield 36, 3) := by decide +kernel
theorem dX3_keep_41 : decode cX3_keep 41 = .ok (.getfield 40, 3) := by decide +kernel
theorem dX3_keep_44 : decode cX3_keep 44 = .ok (.iastore, 1) := by decide +kernel
theorem dX3_keep_45 : decode cX3_keep 45 = .ok (.aload_n 0, 1) := by decide +kernel
theorem dX3_keep_46 : decode cX3_keep 46 = .ok (.bipush 6, 2) := by decide +kernel
theorem dX3_keep_48 : decode cX3_keep 48 = .ok (.aload_n 0, 1) := by decide +kernel
theorem dX3_keep_49 : decode cX3_keep 49 = .ok (.getfield 45, 3) := by decide +kernel
theorem dX3_keep_52 : decode cX3_keep 52 = .ok (.iconst 1, 1) := by decide +kernel
theorem dX3_keep_53 : decode cX3_keep 53 = .ok (.iadd, 1) := by decide +kernel
theorem dX3_keep_54 : decode cX3_keep 54 = .ok (.invokestatic 46, 3) := by decide +kernel
theorem dX3_keep_57 : decode cX3_keep 57 = .ok (.putfield 45, 3) := by decide +kernel
theorem dX3_keep_60 : decode cX3_keep 60 = .ok (.return_, 1) := by decide +kernel
theorem dX3_bringBack_0 : decode cX3_bringBack 0 = .ok (.aload_n 0, 1) := by decide +kernel
theorem dX3_bringBack_1 : decode cX3_bringBack 1 = .ok (.getfield 45, 3) := by decide +kernel
theorem dX3_bringBack_4 : decode cX3_bringBack 4 = .ok (.iconst 1, 1) := by decide +kernel
theorem dX3_bringBack_5 : decode cX3_bringBack 5 = .ok (.if_icmp .ge 5, 3) := by decide +kernel
theorem dX3_bringBack_8 : decode cX3_bringBack 8 = .ok (.iconst 0, 1) := by decide +kernel
theorem dX3_bringBack_9 : decode cX3_bringBack 9 = .ok (.ireturn, 1) := by decide +kernel
theorem dX3_bringBack_10 : decode cX3_bringBack 10 = .ok (.aload_n 1, 1) := by decide +kernel
theorem dX3_bringBack_11 : decode cX3_bringBack 11 = .ok (.getfield 26, 3) := by decide +kernel
theorem dX3_bringBack_14 : decode cX3_bringBack 14 = .ok (.aload_n 0, 1) := by decide +kernel
theorem dX3_bringBack_15 : decode cX3_bringBack 15 = .ok (.getfield 11, 3) := by decide +kernel
theorem dX3_bringBack_18 : decode cX3_bringBack 18 = .ok (.aload_n 0, 1) := by decide +kernel
theorem dX3_bringBack_19 : decode cX3_bringBack 19 = .ok (.getfield 22, 3) := by decide +kernel
theorem dX3_bringBack_22 : decode cX3_bringBack 22 = .ok (.aaload, 1) := by decide +kernel
theorem dX3_bringBack_23 : decode cX3_bringBack 23 = .ok (.invokevirtual 32, 3) := by decide +kernel
theorem dX3_bringBack_26 : decode cX3_bringBack 26 = .ok (.aload_n 1, 1) := by decide +kernel
theorem dX3_bringBack_27 : decode cX3_bringBack 27 = .ok (.getfield 36, 3) := by decide +kernel
theorem dX3_bringBack_30 : decode cX3_bringBack 30 = .ok (.aload_n 0, 1) := by decide +kernel
theorem dX3_bringBack_31 : decode cX3_bringBack 31 = .ok (.getfield 17, 3) := by decide +kernel
theorem dX3_bringBack_34 : decode cX3_bringBack 34 = .ok (.aload_n 0, 1) := by decide +kernel
theorem dX3_bringBack_35 : decode cX3_bringBack 35 = .ok (.getfield 22, 3) := by decide +kernel
theorem dX3_bringBack_38 : decode cX3_bringBack 38 = .ok (.iaload, 1) := by decide +kernel
theorem dX3_bringBack_39 : decode cX3_bringBack 39 = .ok (.putfield 40, 3) := by decide +kernel
theorem dX3_bringBack_42 : decode cX3_bringBack 42 = .ok (.aload_n 0, 1) := by decide +kernel
theorem dX3_bringBack_43 : decode cX3_bringBack 43 = .ok (.aload_n 0, 1) := by decide +kernel
theorem dX3_bringBack_44 : decode cX3_bringBack 44 = .ok (.getfield 22, 3) := by decide +kernel
theorem dX3_bringBack_47 : decode cX3_bringBack 47 = .ok (.bipush 6, 2) := by decide +kernel
theorem dX3_bringBack_49 : decode cX3_bringBack 49 = .ok (.iadd, 1) := by decide +kernel
theorem dX3_bringBack_50 : decode cX3_bringBack 50 = .ok (.iconst 1, 1) := by decide +kernel
theorem dX3_bringBack_51 : decode cX3_bringBack 51 = .ok (.isub, 1) := by decide +kernel
theorem dX3_bringBack_52 : decode cX3_bringBack 52 = .ok (.bipush 6, 2) := by decide +kernel
theorem dX3_bringBack_54 : decode cX3_bringBack 54 = .ok (.irem, 1) := by decide +kernel
theorem dX3_bringBack_55 : decode cX3_bringBack 55 = .ok (.putfield 22, 3) := by decide +kernel
theorem dX3_bringBack_58 : decode cX3_bringBack 58 = .ok (.aload_n 0, 1) := by decide +kernel
theorem dX3_bringBack_59 : decode cX3_bringBack 59 = .ok (.dup, 1) := by decide +kernel
theorem dX3_bringBack_60 : decode cX3_bringBack 60 = .ok (.getfield 45, 3) := by decide +kernel
theorem dX3_bringBack_63 : decode cX3_bringBack 63 = .ok (.iconst 1, 1) := by decide +kernel
theorem dX3_bringBack_64 : decode cX3_bringBack 64 = .ok (.isub, 1) := by decide +kernel
theorem dX3_bringBack_65 : decode cX3_bringBack 65 = .ok (.putfield 45, 3) := by decide +kernel
theorem dX3_bringBack_68 : decode cX3_bringBack 68 = .ok (.iconst 1, 1) := by decide +kernel
theorem dX3_bringBack_69 : decode cX3_bringBack 69 = .ok (.ireturn, 1) := by decide +kernel
theorem dX3_forget_0 : decode cX3_forget 0 = .ok (.aload_n 0, 1) := by decide +kernel
theorem dX3_forget_1 : decode cX3_forget 1 = .ok (.iconst 0, 1) := by decide +kernel
theorem dX3_forget_2 : decode cX3_forget 2 = .ok (.putfield 45, 3) := by decide +kernel
theorem dX3_forget_5 : decode cX3_forget 5 = .ok (.return_, 1) := by decide +kernel
theorem dX4_init_0 : decode cX4_init 0 = .ok (.aload_n 0, 1) := by decide +kernel
theorem dX4_init_1 : decode cX4_init 1 = .ok (.invokespecial 3, 3) := by decide +kernel
theorem dX4_init_4 : decode cX4_init 4 = .ok (.aload_n 0, 1) := by decide +kernel
theorem dX4_init_5 : decode cX4_init 5 = .ok (.iconst 0, 1) := by decide +kernel
theorem dX4_init_6 : decode cX4_init 6 = .ok (.iload_n 1, 1) := by decide +kernel
theorem dX4_init_7 : decode cX4_init 7 = .ok (.invokestatic 9, 3) := by decide +kernel
theorem dX4_init_10 : decode cX4_init 10 = .ok (.iconst 4, 1) := by decide +kernel
theorem dX4_init_11 : decode cX4_init 11 = .ok (.imul, 1) := by decide +kernel
theorem dX4_init_12 : decode cX4_init 12 = .ok (.newarray .int, 2) := by decide +kernel
theorem dX4_init_14 : decode cX4_init 14 = .ok (.putfield 17, 3) := by decide +kernel
theorem dX4_init_17 : decode cX4_init 17 = .ok (.return_, 1) := by decide +kernel
theorem dX4_add_0 : decode cX4_add 0 = .ok (.aload_n 0, 1) := by decide +kernel
theorem dX4_add_1 : decode cX4_add 1 = .ok (.getfield 21, 3) := by decide +kernel
theorem dX4_add_4 : decode cX4_add 4 = .ok (.iconst 4, 1) := by decide +kernel
theorem dX4_add_5 : decode cX4_add 5 = .ok (.imul, 1) := by decide +kernel
theorem dX4_add_6 : decode cX4_add 6 = .ok (.istore 5, 2) := by decide +kernel
theorem dX4_add_8 : decode cX4_add 8 = .ok (.iload 5, 2) := by decide +kernel
theorem dX4_add_10 : decode cX4_add 10 = .ok (.ifCond .lt 15, 3) := by decide +kernel
theorem dX4_add_13 : decode cX4_add 13 = .ok (.iload 5, 2) := by decide +kernel
theorem dX4_add_15 : decode cX4_add 15 = .ok (.iconst 4, 1) := by decide +kernel
theorem dX4_add_16 : decode cX4_add 16 = .ok (.iadd, 1) := by decide +kernel
theorem dX4_add_17 : decode cX4_add 17 = .ok (.aload_n 0, 1) := by decide +kernel
theorem dX4_add_18 : decode cX4_add 18 = .ok (.getfield 17, 3) := by decide +kernel
theorem dX4_add_21 : decode cX4_add 21 = .ok (.arraylength, 1) := by decide +kernel
theorem dX4_add_22 : decode cX4_add 22 = .ok (.if_icmp .le 4, 3) := by decide +kernel
theorem dX4_add_25 : decode cX4_add 25 = .ok (.return_, 1) := by decide +kernel
theorem dX4_add_26 : decode cX4_add 26 = .ok (.aload_n 0, 1) := by decide +kernel
theorem dX4_add_27 : decode cX4_add 27 = .ok (.getfield 17, 3) := by decide +kernel
theorem dX4_add_30 : decode cX4_add 30 = .ok (.iload 5, 2) := by decide +kernel
theorem dX4_add_32 : decode cX4_add 32 = .ok (.iload_n 1, 1) := by decide +kernel
theorem dX4_add_33 : decode cX4_add 33 = .ok (.iastore, 1) := by decide +kernel
theorem dX4_add_34 : decode cX4_add 34 = .ok (.aload_n 0, 1) := by decide +kernel
theorem dX4_add_35 : decode cX4_add 35 = .ok (.getfield 17, 3) := by decide +kernel
theorem dX4_add_38 : decode cX4_add 38 = .ok (.iload 5, 2) := by decide +kernel
theorem dX4_add_40 : decode cX4_add 40 = .ok (.iconst 1, 1) := by decide +kernel
theorem dX4_add_41 : decode cX4_add 41 = .ok (.iadd, 1) := by decide +kernel
theorem dX4_add_42 : decode cX4_add 42 = .ok (.iload_n 2, 1) := by decide +kernel
theorem dX4_add_43 : decode cX4_add 43 = .ok (.iastore, 1) := by decide +kernel
theorem dX4_add_44 : decode cX4_add 44 = .ok (.aload_n 0, 1) := by decide +kernel
theorem dX4_add_45 : decode cX4_add 45 = .ok (.getfield 17, 3) := by decide +kernel
theorem dX4_add_48 : decode cX4_add 48 = .ok (.iload 5, 2) := by decide +kernel
theorem dX4_add_50 : decode cX4_add 50 = .ok (.iconst 2, 1) := by decide +kernel
theorem dX4_add_51 : decode cX4_add 51 = .ok (.iadd, 1) := by decide +kernel
theorem dX4_add_52 : decode cX4_add 52 = .ok (.iload_n 3, 1) := by decide +kernel
theorem dX4_add_53 : decode cX4_add 53 = .ok (.iastore, 1) := by decide +kernel
theorem dX4_add_54 : decode cX4_add 54 = .ok (.aload_n 0, 1) := by decide +kernel
theorem dX4_add_55 : decode cX4_add 55 = .ok (.getfield 17, 3) := by decide +kernel
theorem dX4_add_58 : decode cX4_add 58 = .ok (.iload 5, 2) := by decide +kernel
theorem dX4_add_60 : decode cX4_add 60 = .ok (.iconst 3, 1) := by decide +kernel
theorem dX4_add_61 : decode cX4_add 61 = .ok (.iadd, 1) := by decide +kernel
theorem dX4_add_62 : decode cX4_add 62 = .ok (.iload 4, 2) := by decide +kernel
theorem dX4_add_64 : decode cX4_add 64 = .ok (.iastore, 1) := by decide +kernel
theorem dX4_add_65 : decode cX4_add 65 = .ok (.aload_n 0, 1) := by decide +kernel
theorem dX4_add_66 : decode cX4_add 66 = .ok (.dup, 1) := by decide +kernel
theorem dX4_add_67 : decode cX4_add 67 = .ok (.getfield 21, 3) := by decide +kernel
theorem dX4_add_70 : decode cX4_add 70 = .ok (.iconst 1, 1) := by decide +kernel
theorem dX4_add_71 : decode cX4_add 71 = .ok (.iadd, 1) := by decide +kernel
theorem dX4_add_72 : decode cX4_add 72 = .ok (.putfield 21, 3) := by decide +kernel
theorem dX4_add_75 : decode cX4_add 75 = .ok (.return_, 1) := by decide +kernel
theorem dX4_cell_0 : decode cX4_cell 0 = .ok (.iload_n 1, 1) := by decide +kernel
theorem dX4_cell_1 : decode cX4_cell 1 = .ok (.ifCond .lt 20, 3) := by decide +kernel
theorem dX4_cell_4 : decode cX4_cell 4 = .ok (.iload_n 1, 1) := by decide +kernel
theorem dX4_cell_5 : decode cX4_cell 5 = .ok (.aload_n 0, 1) := by decide +kernel
theorem dX4_cell_6 : decode cX4_cell 6 = .ok (.getfield 21, 3) := by decide +kernel
theorem dX4_cell_9 : decode cX4_cell 9 = .ok (.if_icmp .ge 12, 3) := by decide +kernel
theorem dX4_cell_12 : decode cX4_cell 12 = .ok (.iload_n 2, 1) := by decide +kernel
theorem dX4_cell_13 : decode cX4_cell 13 = .ok (.ifCond .lt 8, 3) := by decide +kernel
theorem dX4_cell_16 : decode cX4_cell 16 = .ok (.iload_n 2, 1) := by decide +kernel
theorem dX4_cell_17 : decode cX4_cell 17 = .ok (.iconst 4, 1) := by decide +kernel
theorem dX4_cell_18 : decode cX4_cell 18 = .ok (.if_icmp .lt 5, 3) := by decide +kernel
theorem dX4_cell_21 : decode cX4_cell 21 = .ok (.iconst (-1), 1) := by decide +kernel
theorem dX4_cell_22 : decode cX4_cell 22 = .ok (.ireturn, 1) := by decide +kernel
theorem dX4_cell_23 : decode cX4_cell 23 = .ok (.aload_n 0, 1) := by decide +kernel
theorem dX4_cell_24 : decode cX4_cell 24 = .ok (.getfield 17, 3) := by decide +kernel
theorem dX4_cell_27 : decode cX4_cell 27 = .ok (.iload_n 1, 1) := by decide +kernel
theorem dX4_cell_28 : decode cX4_cell 28 = .ok (.iconst 4, 1) := by decide +kernel
theorem dX4_cell_29 : decode cX4_cell 29 = .ok (.imul, 1) := by decide +kernel
theorem dX4_cell_30 : decode cX4_cell 30 = .ok (.iload_n 2, 1) := by decide +kernel
theorem dX4_cell_31 : decode cX4_cell 31 = .ok (.iadd, 1) := by decide +kernel
theorem dX4_cell_32 : decode cX4_cell 32 = .ok (.iaload, 1) := by decide +kernel
theorem dX4_cell_33 : decode cX4_cell 33 = .ok (.ireturn, 1) := by decide +kernel
theorem dX4_become_0 : decode cX4_become 0 = .ok (.aload_n 1, 1) := by decide +kernel
theorem dX4_become_1 : decode cX4_become 1 = .ok (.getfield 17, 3) := by decide +kernel
theorem dX4_become_4 : decode cX4_become 4 = .ok (.iconst 0, 1) := by decide +kernel
theorem dX4_become_5 : decode cX4_become 5 = .ok (.aload_n 0, 1) := by decide +kernel
theorem dX4_become_6 : decode cX4_become 6 = .ok (.getfield 17, 3) := by decide +kernel
theorem dX4_become_9 : decode cX4_become 9 = .ok (.iconst 0, 1) := by decide +kernel
theorem dX4_become_10 : decode cX4_become 10 = .ok (.aload_n 1, 1) := by decide +kernel
theorem dX4_become_11 : decode cX4_become 11 = .ok (.getfield 17, 3) := by decide +kernel
theorem dX4_become_14 : decode cX4_become 14 = .ok (.arraylength, 1) := by decide +kernel
theorem dX4_become_15 : decode cX4_become 15 = .ok (.aload_n 0, 1) := by decide +kernel
theorem dX4_become_16 : decode cX4_become 16 = .ok (.getfield 17, 3) := by decide +kernel
theorem dX4_become_19 : decode cX4_become 19 = .ok (.arraylength, 1) := by decide +kernel
theorem dX4_become_20 : decode cX4_become 20 = .ok (.invokestatic 25, 3) := by decide +kernel
theorem dX4_become_23 : decode cX4_become 23 = .ok (.invokestatic 28, 3) := by decide +kernel
theorem dX4_become_26 : decode cX4_become 26 = .ok (.aload_n 0, 1) := by decide +kernel
theorem dX4_become_27 : decode cX4_become 27 = .ok (.aload_n 1, 1) := by decide +kernel
theorem dX4_become_28 : decode cX4_become 28 = .ok (.getfield 21, 3) := by decide +kernel
theorem dX4_become_31 : decode cX4_become 31 = .ok (.putfield 21, 3) := by decide +kernel
theorem dX4_become_34 : decode cX4_become 34 = .ok (.return_, 1) := by decide +kernel
theorem dX5_init_0 : decode cX5_init 0 = .ok (.aload_n 0, 1) := by decide +kernel
theorem dX5_init_1 : decode cX5_init 1 = .ok (.invokespecial 3, 3) := by decide +kernel
theorem dX5_init_4 : decode cX5_init 4 = .ok (.aload_n 0, 1) := by decide +kernel
theorem dX5_init_5 : decode cX5_init 5 = .ok (.sipush 400, 3) := by decide +kernel
theorem dX5_init_8 : decode cX5_init 8 = .ok (.newarray .byte, 2) := by decide +kernel
theorem dX5_init_10 : decode cX5_init 10 = .ok (.putfield 9, 3) := by decide +kernel
theorem dX5_init_13 : decode cX5_init 13 = .ok (.return_, 1) := by decide +kernel
theorem dX5_put_0 : decode cX5_put 0 = .ok (.bipush 24, 2) := by decide +kernel
theorem dX5_put_2 : decode cX5_put 2 = .ok (.istore_n 2, 1) := by decide +kernel
theorem dX5_put_3 : decode cX5_put 3 = .ok (.iload_n 2, 1) := by decide +kernel
theorem dX5_put_4 : decode cX5_put 4 = .ok (.ifCond .lt 42, 3) := by decide +kernel
theorem dX5_put_7 : decode cX5_put 7 = .ok (.aload_n 0, 1) := by decide +kernel
theorem dX5_put_8 : decode cX5_put 8 = .ok (.getfield 15, 3) := by decide +kernel
theorem dX5_put_11 : decode cX5_put 11 = .ok (.sipush 400, 3) := by decide +kernel
theorem dX5_put_14 : decode cX5_put 14 = .ok (.if_icmp .ge 32, 3) := by decide +kernel
theorem dX5_put_17 : decode cX5_put 17 = .ok (.aload_n 0, 1) := by decide +kernel
theorem dX5_put_18 : decode cX5_put 18 = .ok (.getfield 9, 3) := by decide +kernel
theorem dX5_put_21 : decode cX5_put 21 = .ok (.aload_n 0, 1) := by decide +kernel
theorem dX5_put_22 : decode cX5_put 22 = .ok (.getfield 15, 3) := by decide +kernel
theorem dX5_put_25 : decode cX5_put 25 = .ok (.iload_n 1, 1) := by decide +kernel
theorem dX5_put_26 : decode cX5_put 26 = .ok (.iload_n 2, 1) := by decide +kernel
theorem dX5_put_27 : decode cX5_put 27 = .ok (.ishr, 1) := by decide +kernel
theorem dX5_put_28 : decode cX5_put 28 = .ok (.i2b, 1) := by decide +kernel
theorem dX5_put_29 : decode cX5_put 29 = .ok (.bastore, 1) := by decide +kernel
theorem dX5_put_30 : decode cX5_put 30 = .ok (.aload_n 0, 1) := by decide +kernel
theorem dX5_put_31 : decode cX5_put 31 = .ok (.dup, 1) := by decide +kernel
theorem dX5_put_32 : decode cX5_put 32 = .ok (.getfield 15, 3) := by decide +kernel
theorem dX5_put_35 : decode cX5_put 35 = .ok (.iconst 1, 1) := by decide +kernel
theorem dX5_put_36 : decode cX5_put 36 = .ok (.iadd, 1) := by decide +kernel
theorem dX5_put_37 : decode cX5_put 37 = .ok (.putfield 15, 3) := by decide +kernel
theorem dX5_put_40 : decode cX5_put 40 = .ok (.iinc 2 (-8), 3) := by decide +kernel
theorem dX5_put_43 : decode cX5_put 43 = .ok (.goto (-40), 3) := by decide +kernel
theorem dX5_put_46 : decode cX5_put 46 = .ok (.return_, 1) := by decide +kernel
theorem dX5_at_0 : decode cX5_at 0 = .ok (.iload_n 1, 1) := by decide +kernel
theorem dX5_at_1 : decode cX5_at 1 = .ok (.ifCond .lt 18, 3) := by decide +kernel
theorem dX5_at_4 : decode cX5_at 4 = .ok (.iload_n 1, 1) := by decide +kernel
theorem dX5_at_5 : decode cX5_at 5 = .ok (.aload_n 0, 1) := by decide +kernel
theorem dX5_at_6 : decode cX5_at 6 = .ok (.getfield 15, 3) := by decide +kernel
theorem dX5_at_9 : decode cX5_at 9 = .ok (.if_icmp .ge 10, 3) := by decide +kernel
theorem dX5_at_12 : decode cX5_at 12 = .ok (.iload_n 1, 1) := by decide +kernel
theorem dX5_at_13 : decode cX5_at 13 = .ok (.sipush 400, 3) := by decide +kernel
theorem dX5_at_16 : decode cX5_at 16 = .ok (.if_icmp .lt 7, 3) := by decide +kernel
theorem dX5_at_19 : decode cX5_at 19 = .ok (.iconst 0, 1) := by decide +kernel
theorem dX5_at_20 : decode cX5_at 20 = .ok (.goto 13, 3) := by decide +kernel
theorem dX5_at_23 : decode cX5_at 23 = .ok (.aload_n 0, 1) := by decide +kernel
theorem dX5_at_24 : decode cX5_at 24 = .ok (.getfield 9, 3) := by decide +kernel
theorem dX5_at_27 : decode cX5_at 27 = .ok (.iload_n 1, 1) := by decide +kernel
theorem dX5_at_28 : decode cX5_at 28 = .ok (.baload, 1) := by decide +kernel
theorem dX5_at_29 : decode cX5_at 29 = .ok (.sipush 255, 3) := by decide +kernel
theorem dX5_at_32 : decode cX5_at 32 = .ok (.iand, 1) := by decide +kernel
theorem dX5_at_33 : decode cX5_at 33 = .ok (.ireturn, 1) := by decide +kernel
theorem dX6_init_0 : decode cX6_init 0 = .ok (.aload_n 0, 1) := by decide +kernel
theorem dX6_init_1 : decode cX6_init 1 = .ok (.invokespecial 3, 3) := by decide +kernel
theorem dX6_init_4 : decode cX6_init 4 = .ok (.aload_n 0, 1) := by decide +kernel
theorem dX6_init_5 : decode cX6_init 5 = .ok (.iconst (-1), 1) := by decide +kernel
theorem dX6_init_6 : decode cX6_init 6 = .ok (.putfield 9, 3) := by decide +kernel
theorem dX6_init_9 : decode cX6_init 9 = .ok (.aload_n 0, 1) := by decide +kernel
theorem dX6_init_10 : decode cX6_init 10 = .ok (.sipush 401, 3) := by decide +kernel
theorem dX6_init_13 : decode cX6_init 13 = .ok (.newarray .int, 2) := by decide +kernel
theorem dX6_init_15 : decode cX6_init 15 = .ok (.putfield 15, 3) := by decide +kernel
theorem dX6_init_18 : decode cX6_init 18 = .ok (.aload_n 0, 1) := by decide +kernel
theorem dX6_init_19 : decode cX6_init 19 = .ok (.sipush 401, 3) := by decide +kernel
theorem dX6_init_22 : decode cX6_init 22 = .ok (.newarray .int, 2) := by decide +kernel
theorem dX6_init_24 : decode cX6_init 24 = .ok (.putfield 19, 3) := by decide +kernel
theorem dX6_init_27 : decode cX6_init 27 = .ok (.aload_n 0, 1) := by decide +kernel
theorem dX6_init_28 : decode cX6_init 28 = .ok (.sipush 401, 3) := by decide +kernel
theorem dX6_init_31 : decode cX6_init 31 = .ok (.newarray .int, 2) := by decide +kernel
theorem dX6_init_33 : decode cX6_init 33 = .ok (.putfield 22, 3) := by decide +kernel
theorem dX6_init_36 : decode cX6_init 36 = .ok (.return_, 1) := by decide +kernel
theorem dX6_read_0 : decode cX6_read 0 = .ok (.aload_n 0, 1) := by decide +kernel
theorem dX6_read_1 : decode cX6_read 1 = .ok (.iconst 0, 1) := by decide +kernel
theorem dX6_read_2 : decode cX6_read 2 = .ok (.putfield 25, 3) := by decide +kernel
theorem dX6_read_5 : decode cX6_read 5 = .ok (.aload_n 0, 1) := by decide +kernel
theorem dX6_read_6 : decode cX6_read 6 = .ok (.iconst (-1), 1) := by decide +kernel
theorem dX6_read_7 : decode cX6_read 7 = .ok (.putfield 9, 3) := by decide +kernel
theorem dX6_read_10 : decode cX6_read 10 = .ok (.iload_n 1, 1) := by decide +kernel
theorem dX6_read_11 : decode cX6_read 11 = .ok (.ifCond .lt 8, 3) := by decide +kernel
theorem dX6_read_14 : decode cX6_read 14 = .ok (.iload_n 1, 1) := by decide +kernel
theorem dX6_read_15 : decode cX6_read 15 = .ok (.iconst 3, 1) := by decide +kernel
theorem dX6_read_16 : decode cX6_read 16 = .ok (.if_icmp .le 5, 3) := by decide +kernel
theorem dX6_read_19 : decode cX6_read 19 = .ok (.iconst (-1), 1) := by decide +kernel
theorem dX6_read_20 : decode cX6_read 20 = .ok (.ireturn, 1) := by decide +kernel
theorem dX6_read_21 : decode cX6_read 21 = .ok (.aload_n 0, 1) := by decide +kernel
theorem dX6_read_22 : decode cX6_read 22 = .ok (.aload_n 2, 1) := by decide +kernel
theorem dX6_read_23 : decode cX6_read 23 = .ok (.invokevirtual 28, 3) := by decide +kernel
theorem dX6_read_26 : decode cX6_read 26 = .ok (.aload 4, 2) := by decide +kernel
theorem dX6_read_28 : decode cX6_read 28 = .ok (.getfield 32, 3) := by decide +kernel
theorem dX6_read_31 : decode cX6_read 31 = .ok (.iconst 0, 1) := by decide +kernel
theorem dX6_read_32 : decode cX6_read 32 = .ok (.putfield 38, 3) := by decide +kernel
theorem dX6_read_35 : decode cX6_read 35 = .ok (.aload 4, 2) := by decide +kernel
theorem dX6_read_37 : decode cX6_read 37 = .ok (.getfield 43, 3) := by decide +kernel
theorem dX6_read_40 : decode cX6_read 40 = .ok (.invokevirtual 47, 3) := by decide +kernel
theorem dX6_read_43 : decode cX6_read 43 = .ok (.aload 4, 2) := by decide +kernel
theorem dX6_read_45 : decode cX6_read 45 = .ok (.getfield 52, 3) := by decide +kernel
theorem dX6_read_48 : decode cX6_read 48 = .ok (.iconst 0, 1) := by decide +kernel
theorem dX6_read_49 : decode cX6_read 49 = .ok (.putfield 56, 3) := by decide +kernel
theorem dX6_read_52 : decode cX6_read 52 = .ok (.aload 4, 2) := by decide +kernel
theorem dX6_read_54 : decode cX6_read 54 = .ok (.getfield 59, 3) := by decide +kernel
theorem dX6_read_57 : decode cX6_read 57 = .ok (.iconst 0, 1) := by decide +kernel
theorem dX6_read_58 : decode cX6_read 58 = .ok (.putfield 56, 3) := by decide +kernel
theorem dX6_read_61 : decode cX6_read 61 = .ok (.iconst 0, 1) := by decide +kernel
theorem dX6_read_62 : decode cX6_read 62 = .ok (.istore 5, 2) := by decide +kernel
theorem dX6_read_64 : decode cX6_read 64 = .ok (.iconst 0, 1) := by decide +kernel
theorem dX6_read_65 : decode cX6_read 65 = .ok (.istore 6, 2) := by decide +kernel
theorem dX6_read_67 : decode cX6_read 67 = .ok (.iload 6, 2) := by decide +kernel
theorem dX6_read_69 : decode cX6_read 69 = .ok (.sipush 400, 3) := by decide +kernel
theorem dX6_read_72 : decode cX6_read 72 = .ok (.if_icmp .ge 96, 3) := by decide +kernel
theorem dX6_read_75 : decode cX6_read 75 = .ok (.aload_n 0, 1) := by decide +kernel
theorem dX6_read_76 : decode cX6_read 76 = .ok (.invokevirtual 62, 3) := by decide +kernel
theorem dX6_read_79 : decode cX6_read 79 = .ok (.ifCond .eq 89, 3) := by decide +kernel
theorem dX6_read_82 : decode cX6_read 82 = .ok (.iload_n 1, 1) := by decide +kernel
theorem dX6_read_83 : decode cX6_read 83 = .ok (.ifCond .ne 18, 3) := by decide +kernel
theorem dX6_read_86 : decode cX6_read 86 = .ok (.aload_n 0, 1) := by decide +kernel
theorem dX6_read_87 : decode cX6_read 87 = .ok (.aload_n 3, 1) := by decide +kernel
theorem dX6_read_88 : decode cX6_read 88 = .ok (.aload 4, 2) := by decide +kernel
theorem dX6_read_90 : decode cX6_read 90 = .ok (.getfield 32, 3) := by decide +kernel
theorem dX6_read_93 : decode cX6_read 93 = .ok (.invokevirtual 66, 3) := by decide +kernel
theorem dX6_read_96 : decode cX6_read 96 = .ok (.istore 7, 2) := by decide +kernel
theorem dX6_read_98 : decode cX6_read 98 = .ok (.goto 54, 3) := by decide +kernel
theorem dX6_read_101 : decode cX6_read 101 = .ok (.iload_n 1, 1) := by decide +kernel
theorem dX6_read_102 : decode cX6_read 102 = .ok (.iconst 1, 1) := by decide +kernel
theorem dX6_read_103 : decode cX6_read 103 = .ok (.if_icmp .ne 17, 3) := by decide +kernel
theorem dX6_read_106 : decode cX6_read 106 = .ok (.aload_n 0, 1) := by decide +kernel
theorem dX6_read_107 : decode cX6_read 107 = .ok (.aload 4, 2) := by decide +kernel
theorem dX6_read_109 : decode cX6_read 109 = .ok (.getfield 43, 3) := by decide +kernel
theorem dX6_read_112 : decode cX6_read 112 = .ok (.invokevirtual 70, 3) := by decide +kernel
theorem dX6_read_115 : decode cX6_read 115 = .ok (.istore 7, 2) := by decide +kernel
theorem dX6_read_117 : decode cX6_read 117 = .ok (.goto 35, 3) := by decide +kernel
theorem dX6_read_120 : decode cX6_read 120 = .ok (.iload_n 1, 1) := by decide +kernel
theorem dX6_read_121 : decode cX6_read 121 = .ok (.iconst 2, 1) := by decide +kernel
theorem dX6_read_122 : decode cX6_read 122 = .ok (.if_icmp .ne 18, 3) := by decide +kernel
theorem dX6_read_125 : decode cX6_read 125 = .ok (.aload_n 0, 1) := by decide +kernel
theorem dX6_read_126 : decode cX6_read 126 = .ok (.aload_n 3, 1) := by decide +kernel
theorem dX6_read_127 : decode cX6_read 127 = .ok (.aload 4, 2) := by decide +kernel
theorem dX6_read_129 : decode cX6_read 129 = .ok (.getfield 52, 3) := by decide +kernel
theorem dX6_read_132 : decode cX6_read 132 = .ok (.invokevirtual 74, 3) := by decide +kernel
theorem dX6_read_135 : decode cX6_read 135 = .ok (.istore 7, 2) := by decide +kernel
theorem dX6_read_137 : decode cX6_read 137 = .ok (.goto 15, 3) := by decide +kernel
theorem dX6_read_140 : decode cX6_read 140 = .ok (.aload_n 0, 1) := by decide +kernel
theorem dX6_read_141 : decode cX6_read 141 = .ok (.aload_n 3, 1) := by decide +kernel
theorem dX6_read_142 : decode cX6_read 142 = .ok (.aload 4, 2) := by decide +kernel
theorem dX6_read_144 : decode cX6_read 144 = .ok (.getfield 59, 3) := by decide +kernel
theorem dX6_read_147 : decode cX6_read 147 = .ok (.invokevirtual 78, 3) := by decide +kernel
theorem dX6_read_150 : decode cX6_read 150 = .ok (.istore 7, 2) := by decide +kernel
theorem dX6_read_152 : decode cX6_read 152 = .ok (.iload 7, 2) := by decide +kernel
theorem dX6_read_154 : decode cX6_read 154 = .ok (.ifCond .ne 5, 3) := by decide +kernel
theorem dX6_read_157 : decode cX6_read 157 = .ok (.iconst (-1), 1) := by decide +kernel
theorem dX6_read_158 : decode cX6_read 158 = .ok (.ireturn, 1) := by decide +kernel
theorem dX6_read_159 : decode cX6_read 159 = .ok (.iinc 5 1, 3) := by decide +kernel
theorem dX6_read_162 : decode cX6_read 162 = .ok (.iinc 6 1, 3) := by decide +kernel
theorem dX6_read_165 : decode cX6_read 165 = .ok (.goto (-98), 3) := by decide +kernel
theorem dX6_read_168 : decode cX6_read 168 = .ok (.iload 5, 2) := by decide +kernel
theorem dX6_read_170 : decode cX6_read 170 = .ok (.ireturn, 1) := by decide +kernel
theorem dX6_cut_0 : decode cX6_cut 0 = .ok (.aload_n 0, 1) := by decide +kernel
theorem dX6_cut_1 : decode cX6_cut 1 = .ok (.iconst 0, 1) := by decide +kernel
theorem dX6_cut_2 : decode cX6_cut 2 = .ok (.putfield 81, 3) := by decide +kernel
theorem dX6_cut_5 : decode cX6_cut 5 = .ok (.aload_n 0, 1) := by decide +kernel
theorem dX6_cut_6 : decode cX6_cut 6 = .ok (.iconst 0, 1) := by decide +kernel
theorem dX6_cut_7 : decode cX6_cut 7 = .ok (.putfield 82, 3) := by decide +kernel
theorem dX6_cut_10 : decode cX6_cut 10 = .ok (.iconst 0, 1) := by decide +kernel
theorem dX6_cut_11 : decode cX6_cut 11 = .ok (.istore_n 2, 1) := by decide +kernel
theorem dX6_cut_12 : decode cX6_cut 12 = .ok (.iload_n 2, 1) := by decide +kernel
theorem dX6_cut_13 : decode cX6_cut 13 = .ok (.aload_n 1, 1) := by decide +kernel
theorem dX6_cut_14 : decode cX6_cut 14 = .ok (.getfield 85, 3) := by decide +kernel
theorem dX6_cut_17 : decode cX6_cut 17 = .ok (.if_icmp .ge 167, 3) := by decide +kernel
theorem dX6_cut_20 : decode cX6_cut 20 = .ok (.aload_n 1, 1) := by decide +kernel
theorem dX6_cut_21 : decode cX6_cut 21 = .ok (.iload_n 2, 1) := by decide +kernel
theorem dX6_cut_22 : decode cX6_cut 22 = .ok (.invokevirtual 90, 3) := by decide +kernel
theorem dX6_cut_25 : decode cX6_cut 25 = .ok (.istore_n 3, 1) := by decide +kernel
theorem dX6_cut_26 : decode cX6_cut 26 = .ok (.aload_n 1, 1) := by decide +kernel
theorem dX6_cut_27 : decode cX6_cut 27 = .ok (.iload_n 2, 1) := by decide +kernel
theorem dX6_cut_28 : decode cX6_cut 28 = .ok (.iconst 1, 1) := by decide +kernel
theorem dX6_cut_29 : decode cX6_cut 29 = .ok (.isub, 1) := by decide +kernel
theorem dX6_cut_30 : decode cX6_cut 30 = .ok (.invokevirtual 90, 3) := by decide +kernel
theorem dX6_cut_33 : decode cX6_cut 33 = .ok (.istore 4, 2) := by decide +kernel
theorem dX6_cut_35 : decode cX6_cut 35 = .ok (.iload_n 3, 1) := by decide +kernel
theorem dX6_cut_36 : decode cX6_cut 36 = .ok (.invokestatic 94, 3) := by decide +kernel
theorem dX6_cut_39 : decode cX6_cut 39 = .ok (.ifCond .eq 11, 3) := by decide +kernel
theorem dX6_cut_42 : decode cX6_cut 42 = .ok (.iload 4, 2) := by decide +kernel
theorem dX6_cut_44 : decode cX6_cut 44 = .ok (.invokestatic 94, 3) := by decide +kernel
theorem dX6_cut_47 : decode cX6_cut 47 = .ok (.ifCond .ne 18, 3) := by decide +kernel
theorem dX6_cut_50 : decode cX6_cut 50 = .ok (.iload_n 3, 1) := by decide +kernel
theorem dX6_cut_51 : decode cX6_cut 51 = .ok (.invokestatic 98, 3) := by decide +kernel
theorem dX6_cut_54 : decode cX6_cut 54 = .ok (.ifCond .eq 15, 3) := by decide +kernel
theorem dX6_cut_57 : decode cX6_cut 57 = .ok (.iload 4, 2) := by decide +kernel
theorem dX6_cut_59 : decode cX6_cut 59 = .ok (.invokestatic 98, 3) := by decide +kernel
theorem dX6_cut_62 : decode cX6_cut 62 = .ok (.ifCond .eq 7, 3) := by decide +kernel
theorem dX6_cut_65 : decode cX6_cut 65 = .ok (.iconst 1, 1) := by decide +kernel
theorem dX6_cut_66 : decode cX6_cut 66 = .ok (.goto 4, 3) := by decide +kernel
theorem dX6_cut_69 : decode cX6_cut 69 = .ok (.iconst 0, 1) := by decide +kernel
theorem dX6_cut_70 : decode cX6_cut 70 = .ok (.istore 5, 2) := by decide +kernel
theorem dX6_cut_72 : decode cX6_cut 72 = .ok (.iload_n 3, 1) := by decide +kernel
theorem dX6_cut_73 : decode cX6_cut 73 = .ok (.bipush 32, 2) := by decide +kernel
theorem dX6_cut_75 : decode cX6_cut 75 = .ok (.if_icmp .eq 103, 3) := by decide +kernel
theorem dX6_cut_78 : decode cX6_cut 78 = .ok (.iload_n 3, 1) := by decide +kernel
theorem dX6_cut_79 : decode cX6_cut 79 = .ok (.bipush 10, 2) := by decide +kernel
theorem dX6_cut_81 : decode cX6_cut 81 = .ok (.if_icmp .eq 97, 3) := by decide +kernel
theorem dX6_cut_84 : decode cX6_cut 84 = .ok (.iload 5, 2) := by decide +kernel
theorem dX6_cut_86 : decode cX6_cut 86 = .ok (.ifCond .eq 6, 3) := by decide +kernel
theorem dX6_cut_89 : decode cX6_cut 89 = .ok (.goto 89, 3) := by decide +kernel
theorem dX6_cut_92 : decode cX6_cut 92 = .ok (.iload_n 3, 1) := by decide +kernel
theorem dX6_cut_93 : decode cX6_cut 93 = .ok (.invokestatic 94, 3) := by decide +kernel
theorem dX6_cut_96 : decode cX6_cut 96 = .ok (.ifCond .eq 22, 3) := by decide +kernel
theorem dX6_cut_99 : decode cX6_cut 99 = .ok (.aload_n 0, 1) := by decide +kernel
theorem dX6_cut_100 : decode cX6_cut 100 = .ok (.aload_n 1, 1) := by decide +kernel
theorem dX6_cut_101 : decode cX6_cut 101 = .ok (.iload_n 2, 1) := by decide +kernel
theorem dX6_cut_102 : decode cX6_cut 102 = .ok (.aload_n 1, 1) := by decide +kernel
theorem dX6_cut_103 : decode cX6_cut 103 = .ok (.iload_n 2, 1) := by decide +kernel
theorem dX6_cut_104 : decode cX6_cut 104 = .ok (.invokestatic 101, 3) := by decide +kernel
theorem dX6_cut_107 : decode cX6_cut 107 = .ok (.invokestatic 105, 3) := by decide +kernel
theorem dX6_cut_110 : decode cX6_cut 110 = .ok (.iload_n 2, 1) := by decide +kernel
theorem dX6_cut_111 : decode cX6_cut 111 = .ok (.iconst 0, 1) := by decide +kernel
theorem dX6_cut_112 : decode cX6_cut 112 = .ok (.invokevirtual 109, 3) := by decide +kernel
theorem dX6_cut_115 : decode cX6_cut 115 = .ok (.goto 63, 3) := by decide +kernel
theorem dX6_cut_118 : decode cX6_cut 118 = .ok (.iload_n 3, 1) := by decide +kernel
theorem dX6_cut_119 : decode cX6_cut 119 = .ok (.invokestatic 98, 3) := by decide +kernel
theorem dX6_cut_122 : decode cX6_cut 122 = .ok (.ifCond .eq 38, 3) := by decide +kernel
theorem dX6_cut_125 : decode cX6_cut 125 = .ok (.aload_n 1, 1) := by decide +kernel
theorem dX6_cut_126 : decode cX6_cut 126 = .ok (.iload_n 2, 1) := by decide +kernel
theorem dX6_cut_127 : decode cX6_cut 127 = .ok (.invokestatic 113, 3) := by decide +kernel
theorem dX6_cut_130 : decode cX6_cut 130 = .ok (.istore 6, 2) := by decide +kernel
theorem dX6_cut_132 : decode cX6_cut 132 = .ok (.aload_n 0, 1) := by decide +kernel
theorem dX6_cut_133 : decode cX6_cut 133 = .ok (.iload 6, 2) := by decide +kernel
theorem dX6_cut_135 : decode cX6_cut 135 = .ok (.iload_n 2, 1) := by decide +kernel
theorem dX6_cut_136 : decode cX6_cut 136 = .ok (.isub, 1) := by decide +kernel
theorem dX6_cut_137 : decode cX6_cut 137 = .ok (.iconst 4, 1) := by decide +kernel
theorem dX6_cut_138 : decode cX6_cut 138 = .ok (.if_icmp .le 7, 3) := by decide +kernel
theorem dX6_cut_141 : decode cX6_cut 141 = .ok (.iconst 1, 1) := by decide +kernel
theorem dX6_cut_142 : decode cX6_cut 142 = .ok (.goto 4, 3) := by decide +kernel
theorem dX6_cut_145 : decode cX6_cut 145 = .ok (.iconst 2, 1) := by decide +kernel
theorem dX6_cut_146 : decode cX6_cut 146 = .ok (.iload_n 2, 1) := by decide +kernel
theorem dX6_cut_147 : decode cX6_cut 147 = .ok (.aload_n 1, 1) := by decide +kernel
theorem dX6_cut_148 : decode cX6_cut 148 = .ok (.iload_n 2, 1) := by decide +kernel
theorem dX6_cut_149 : decode cX6_cut 149 = .ok (.iload 6, 2) := by decide +kernel
theorem dX6_cut_151 : decode cX6_cut 151 = .ok (.invokestatic 116, 3) := by decide +kernel
theorem dX6_cut_154 : decode cX6_cut 154 = .ok (.invokevirtual 109, 3) := by decide +kernel
theorem dX6_cut_157 : decode cX6_cut 157 = .ok (.goto 21, 3) := by decide +kernel
theorem dX6_cut_160 : decode cX6_cut 160 = .ok (.aload_n 0, 1) := by decide +kernel
theorem dX6_cut_161 : decode cX6_cut 161 = .ok (.iload_n 3, 1) := by decide +kernel
theorem dX6_cut_162 : decode cX6_cut 162 = .ok (.invokestatic 119, 3) := by decide +kernel
theorem dX6_cut_165 : decode cX6_cut 165 = .ok (.ifCond .eq 7, 3) := by decide +kernel
theorem dX6_cut_168 : decode cX6_cut 168 = .ok (.iload_n 3, 1) := by decide +kernel
theorem dX6_cut_169 : decode cX6_cut 169 = .ok (.goto 4, 3) := by decide +kernel
theorem dX6_cut_172 : decode cX6_cut 172 = .ok (.iconst 1, 1) := by decide +kernel
theorem dX6_cut_173 : decode cX6_cut 173 = .ok (.iload_n 2, 1) := by decide +kernel
theorem dX6_cut_174 : decode cX6_cut 174 = .ok (.iconst 0, 1) := by decide +kernel
theorem dX6_cut_175 : decode cX6_cut 175 = .ok (.invokevirtual 109, 3) := by decide +kernel
theorem dX6_cut_178 : decode cX6_cut 178 = .ok (.iinc 2 1, 3) := by decide +kernel
theorem dX6_cut_181 : decode cX6_cut 181 = .ok (.goto (-169), 3) := by decide +kernel
theorem dX6_cut_184 : decode cX6_cut 184 = .ok (.aload_n 0, 1) := by decide +kernel
theorem dX6_cut_185 : decode cX6_cut 185 = .ok (.iconst 0, 1) := by decide +kernel
theorem dX6_cut_186 : decode cX6_cut 186 = .ok (.aload_n 1, 1) := by decide +kernel
theorem dX6_cut_187 : decode cX6_cut 187 = .ok (.getfield 85, 3) := by decide +kernel
theorem dX6_cut_190 : decode cX6_cut 190 = .ok (.iconst 0, 1) := by decide +kernel
theorem dX6_cut_191 : decode cX6_cut 191 = .ok (.invokevirtual 109, 3) := by decide +kernel
theorem dX6_cut_194 : decode cX6_cut 194 = .ok (.return_, 1) := by decide +kernel
theorem dX6_endOfLetters_0 : decode cX6_endOfLetters 0 = .ok (.iload_n 1, 1) := by decide +kernel
theorem dX6_endOfLetters_1 : decode cX6_endOfLetters 1 = .ok (.iconst 1, 1) := by decide +kernel
theorem dX6_endOfLetters_2 : decode cX6_endOfLetters 2 = .ok (.iadd, 1) := by decide +kernel
theorem dX6_endOfLetters_3 : decode cX6_endOfLetters 3 = .ok (.istore_n 2, 1) := by decide +kernel
theorem dX6_endOfLetters_4 : decode cX6_endOfLetters 4 = .ok (.iload_n 2, 1) := by decide +kernel
theorem dX6_endOfLetters_5 : decode cX6_endOfLetters 5 = .ok (.aload_n 0, 1) := by decide +kernel
theorem dX6_endOfLetters_6 : decode cX6_endOfLetters 6 = .ok (.getfield 85, 3) := by decide +kernel
theorem dX6_endOfLetters_9 : decode cX6_endOfLetters 9 = .ok (.if_icmp .ge 20, 3) := by decide +kernel
theorem dX6_endOfLetters_12 : decode cX6_endOfLetters 12 = .ok (.aload_n 0, 1) := by decide +kernel
theorem dX6_endOfLetters_13 : decode cX6_endOfLetters 13 = .ok (.iload_n 2, 1) := by decide +kernel
theorem dX6_endOfLetters_14 : decode cX6_endOfLetters 14 = .ok (.invokevirtual 90, 3) := by decide +kernel
theorem dX6_endOfLetters_17 : decode cX6_endOfLetters 17 = .ok (.invokestatic 94, 3) := by decide +kernel
theorem dX6_endOfLetters_20 : decode cX6_endOfLetters 20 = .ok (.ifCond .eq 9, 3) := by decide +kernel
theorem dX6_endOfLetters_23 : decode cX6_endOfLetters 23 = .ok (.iinc 2 1, 3) := by decide +kernel
theorem dX6_endOfLetters_26 : decode cX6_endOfLetters 26 = .ok (.goto (-22), 3) := by decide +kernel
theorem dX6_endOfLetters_29 : decode cX6_endOfLetters 29 = .ok (.iload_n 2, 1) := by decide +kernel
theorem dX6_endOfLetters_30 : decode cX6_endOfLetters 30 = .ok (.ireturn, 1) := by decide +kernel
theorem dX6_endOfDigits_0 : decode cX6_endOfDigits 0 = .ok (.iload_n 1, 1) := by decide +kernel
theorem dX6_endOfDigits_1 : decode cX6_endOfDigits 1 = .ok (.iconst 1, 1) := by decide +kernel
theorem dX6_endOfDigits_2 : decode cX6_endOfDigits 2 = .ok (.iadd, 1) := by decide +kernel
theorem dX6_endOfDigits_3 : decode cX6_endOfDigits 3 = .ok (.istore_n 2, 1) := by decide +kernel
theorem dX6_endOfDigits_4 : decode cX6_endOfDigits 4 = .ok (.iload_n 2, 1) := by decide +kernel
theorem dX6_endOfDigits_5 : decode cX6_endOfDigits 5 = .ok (.aload_n 0, 1) := by decide +kernel
theorem dX6_endOfDigits_6 : decode cX6_endOfDigits 6 = .ok (.getfield 85, 3) := by decide +kernel
theorem dX6_endOfDigits_9 : decode cX6_endOfDigits 9 = .ok (.if_icmp .ge 20, 3) := by decide +kernel
theorem dX6_endOfDigits_12 : decode cX6_endOfDigits 12 = .ok (.aload_n 0, 1) := by decide +kernel
theorem dX6_endOfDigits_13 : decode cX6_endOfDigits 13 = .ok (.iload_n 2, 1) := by decide +kernel
theorem dX6_endOfDigits_14 : decode cX6_endOfDigits 14 = .ok (.invokevirtual 90, 3) := by decide +kernel
theorem dX6_endOfDigits_17 : decode cX6_endOfDigits 17 = .ok (.invokestatic 98, 3) := by decide +kernel
theorem dX6_endOfDigits_20 : decode cX6_endOfDigits 20 = .ok (.ifCond .eq 9, 3) := by decide +kernel
theorem dX6_endOfDigits_23 : decode cX6_endOfDigits 23 = .ok (.iinc 2 1, 3) := by decide +kernel
theorem dX6_endOfDigits_26 : decode cX6_endOfDigits 26 = .ok (.goto (-22), 3) := by decide +kernel
theorem dX6_endOfDigits_29 : decode cX6_endOfDigits 29 = .ok (.iload_n 2, 1) := by decide +kernel
theorem dX6_endOfDigits_30 : decode cX6_endOfDigits 30 = .ok (.ireturn, 1) := by decide +kernel
theorem dX6_addToken_0 : decode cX6_addToken 0 = .ok (.aload_n 0, 1) := by decide +kernel
theorem dX6_addToken_1 : decode cX6_addToken 1 = .ok (.getfield 81, 3) := by decide +kernel
theorem dX6_addToken_4 : decode cX6_addToken 4 = .ok (.sipush 400, 3) := by decide +kernel
theorem dX6_addToken_7 : decode cX6_addToken 7 = .ok (.if_icmp .gt 43, 3) := by decide +kernel
theorem dX6_addToken_10 : decode cX6_addToken 10 = .ok (.aload_n 0, 1) := by decide +kernel
theorem dX6_addToken_11 : decode cX6_addToken 11 = .ok (.getfield 15, 3) := by decide +kernel
theorem dX6_addToken_14 : decode cX6_addToken 14 = .ok (.aload_n 0, 1) := by decide +kernel
theorem dX6_addToken_15 : decode cX6_addToken 15 = .ok (.getfield 81, 3) := by decide +kernel
theorem dX6_addToken_18 : decode cX6_addToken 18 = .ok (.iload_n 1, 1) := by decide +kernel
theorem dX6_addToken_19 : decode cX6_addToken 19 = .ok (.iastore, 1) := by decide +kernel
theorem dX6_addToken_20 : decode cX6_addToken 20 = .ok (.aload_n 0, 1) := by decide +kernel
theorem dX6_addToken_21 : decode cX6_addToken 21 = .ok (.getfield 19, 3) := by decide +kernel
theorem dX6_addToken_24 : decode cX6_addToken 24 = .ok (.aload_n 0, 1) := by decide +kernel
theorem dX6_addToken_25 : decode cX6_addToken 25 = .ok (.getfield 81, 3) := by decide +kernel
theorem dX6_addToken_28 : decode cX6_addToken 28 = .ok (.iload_n 2, 1) := by decide +kernel
theorem dX6_addToken_29 : decode cX6_addToken 29 = .ok (.iastore, 1) := by decide +kernel
theorem dX6_addToken_30 : decode cX6_addToken 30 = .ok (.aload_n 0, 1) := by decide +kernel
theorem dX6_addToken_31 : decode cX6_addToken 31 = .ok (.getfield 22, 3) := by decide +kernel
theorem dX6_addToken_34 : decode cX6_addToken 34 = .ok (.aload_n 0, 1) := by decide +kernel
theorem dX6_addToken_35 : decode cX6_addToken 35 = .ok (.getfield 81, 3) := by decide +kernel
theorem dX6_addToken_38 : decode cX6_addToken 38 = .ok (.iload_n 3, 1) := by decide +kernel
theorem dX6_addToken_39 : decode cX6_addToken 39 = .ok (.iastore, 1) := by decide +kernel
theorem dX6_addToken_40 : decode cX6_addToken 40 = .ok (.aload_n 0, 1) := by decide +kernel
theorem dX6_addToken_41 : decode cX6_addToken 41 = .ok (.dup, 1) := by decide +kernel
theorem dX6_addToken_42 : decode cX6_addToken 42 = .ok (.getfield 81, 3) := by decide +kernel
theorem dX6_addToken_45 : decode cX6_addToken 45 = .ok (.iconst 1, 1) := by decide +kernel
theorem dX6_addToken_46 : decode cX6_addToken 46 = .ok (.iadd, 1) := by decide +kernel
theorem dX6_addToken_47 : decode cX6_addToken 47 = .ok (.putfield 81, 3) := by decide +kernel
theorem dX6_addToken_50 : decode cX6_addToken 50 = .ok (.return_, 1) := by decide +kernel
theorem dX6_isLetter_0 : decode cX6_isLetter 0 = .ok (.iload_n 0, 1) := by decide +kernel
theorem dX6_isLetter_1 : decode cX6_isLetter 1 = .ok (.bipush 97, 2) := by decide +kernel
theorem dX6_isLetter_3 : decode cX6_isLetter 3 = .ok (.if_icmp .lt 9, 3) := by decide +kernel
theorem dX6_isLetter_6 : decode cX6_isLetter 6 = .ok (.iload_n 0, 1) := by decide +kernel
theorem dX6_isLetter_7 : decode cX6_isLetter 7 = .ok (.bipush 122, 2) := by decide +kernel
theorem dX6_isLetter_9 : decode cX6_isLetter 9 = .ok (.if_icmp .le 15, 3) := by decide +kernel
theorem dX6_isLetter_12 : decode cX6_isLetter 12 = .ok (.iload_n 0, 1) := by decide +kernel
theorem dX6_isLetter_13 : decode cX6_isLetter 13 = .ok (.bipush 65, 2) := by decide +kernel
theorem dX6_isLetter_15 : decode cX6_isLetter 15 = .ok (.if_icmp .lt 13, 3) := by decide +kernel
theorem dX6_isLetter_18 : decode cX6_isLetter 18 = .ok (.iload_n 0, 1) := by decide +kernel
theorem dX6_isLetter_19 : decode cX6_isLetter 19 = .ok (.bipush 90, 2) := by decide +kernel
theorem dX6_isLetter_21 : decode cX6_isLetter 21 = .ok (.if_icmp .gt 7, 3) := by decide +kernel
theorem dX6_isLetter_24 : decode cX6_isLetter 24 = .ok (.iconst 1, 1) := by decide +kernel
theorem dX6_isLetter_25 : decode cX6_isLetter 25 = .ok (.goto 4, 3) := by decide +kernel
theorem dX6_isLetter_28 : decode cX6_isLetter 28 = .ok (.iconst 0, 1) := by decide +kernel
theorem dX6_isLetter_29 : decode cX6_isLetter 29 = .ok (.ireturn, 1) := by decide +kernel
theorem dX6_isDigit_0 : decode cX6_isDigit 0 = .ok (.iload_n 0, 1) := by decide +kernel
theorem dX6_isDigit_1 : decode cX6_isDigit 1 = .ok (.bipush 48, 2) := by decide +kernel
theorem dX6_isDigit_3 : decode cX6_isDigit 3 = .ok (.if_icmp .lt 13, 3) := by decide +kernel
theorem dX6_isDigit_6 : decode cX6_isDigit 6 = .ok (.iload_n 0, 1) := by decide +kernel
theorem dX6_isDigit_7 : decode cX6_isDigit 7 = .ok (.bipush 57, 2) := by decide +kernel
theorem dX6_isDigit_9 : decode cX6_isDigit 9 = .ok (.if_icmp .gt 7, 3) := by decide +kernel
theorem dX6_isDigit_12 : decode cX6_isDigit 12 = .ok (.iconst 1, 1) := by decide +kernel
theorem dX6_isDigit_13 : decode cX6_isDigit 13 = .ok (.goto 4, 3) := by decide +kernel
theorem dX6_isDigit_16 : decode cX6_isDigit 16 = .ok (.iconst 0, 1) := by decide +kernel
theorem dX6_isDigit_17 : decode cX6_isDigit 17 = .ok (.ireturn, 1) := by decide +kernel
theorem dX6_isSign_0 : decode cX6_isSign 0 = .ok (.ldc 122, 2) := by decide +kernel
theorem dX6_isSign_2 : decode cX6_isSign 2 = .ok (.iload_n 0, 1) := by decide +kernel
theorem dX6_isSign_3 : decode cX6_isSign 3 = .ok (.i2c, 1) := by decide +kernel
theorem dX6_isSign_4 : decode cX6_isSign 4 = .ok (.invokevirtual 124, 3) := by decide +kernel
theorem dX6_isSign_7 : decode cX6_isSign 7 = .ok (.ifCond .lt 7, 3) := by decide +kernel
theorem dX6_isSign_10 : decode cX6_isSign 10 = .ok (.iconst 1, 1) := by decide +kernel
theorem dX6_isSign_11 : decode cX6_isSign 11 = .ok (.goto 4, 3) := by decide +kernel
theorem dX6_isSign_14 : decode cX6_isSign 14 = .ok (.iconst 0, 1) := by decide +kernel
theorem dX6_isSign_15 : decode cX6_isSign 15 = .ok (.ireturn, 1) := by decide +kernel
theorem dX6_number_0 : decode cX6_number 0 = .ok (.iconst 0, 1) := by decide +kernel
theorem dX6_number_1 : decode cX6_number 1 = .ok (.istore_n 3, 1) := by decide +kernel
theorem dX6_number_2 : decode cX6_number 2 = .ok (.iload_n 1, 1) := by decide +kernel
theorem dX6_number_3 : decode cX6_number 3 = .ok (.istore 4, 2) := by decide +kernel
theorem dX6_number_5 : decode cX6_number 5 = .ok (.iload 4, 2) := by decide +kernel
theorem dX6_number_7 : decode cX6_number 7 = .ok (.iload_n 2, 1) := by decide +kernel
theorem dX6_number_8 : decode cX6_number 8 = .ok (.if_icmp .ge 32, 3) := by decide +kernel
theorem dX6_number_11 : decode cX6_number 11 = .ok (.iload 4, 2) := by decide +kernel
theorem dX6_number_13 : decode cX6_number 13 = .ok (.iload_n 1, 1) := by decide +kernel
theorem dX6_number_14 : decode cX6_number 14 = .ok (.iconst 4, 1) := by decide +kernel
theorem dX6_number_15 : decode cX6_number 15 = .ok (.iadd, 1) := by decide +kernel
theorem dX6_number_16 : decode cX6_number 16 = .ok (.if_icmp .ge 24, 3) := by decide +kernel
theorem dX6_number_19 : decode cX6_number 19 = .ok (.iload_n 3, 1) := by decide +kernel
theorem dX6_number_20 : decode cX6_number 20 = .ok (.bipush 10, 2) := by decide +kernel
theorem dX6_number_22 : decode cX6_number 22 = .ok (.imul, 1) := by decide +kernel
theorem dX6_number_23 : decode cX6_number 23 = .ok (.aload_n 0, 1) := by decide +kernel
theorem dX6_number_24 : decode cX6_number 24 = .ok (.iload 4, 2) := by decide +kernel
theorem dX6_number_26 : decode cX6_number 26 = .ok (.invokevirtual 90, 3) := by decide +kernel
theorem dX6_number_29 : decode cX6_number 29 = .ok (.iadd, 1) := by decide +kernel
theorem dX6_number_30 : decode cX6_number 30 = .ok (.bipush 48, 2) := by decide +kernel
theorem dX6_number_32 : decode cX6_number 32 = .ok (.isub, 1) := by decide +kernel
theorem dX6_number_33 : decode cX6_number 33 = .ok (.istore_n 3, 1) := by decide +kernel
theorem dX6_number_34 : decode cX6_number 34 = .ok (.iinc 4 1, 3) := by decide +kernel
theorem dX6_number_37 : decode cX6_number 37 = .ok (.goto (-32), 3) := by decide +kernel
theorem dX6_number_40 : decode cX6_number 40 = .ok (.iload_n 3, 1) := by decide +kernel
theorem dX6_number_41 : decode cX6_number 41 = .ok (.ireturn, 1) := by decide +kernel
theorem dX6_keyword_0 : decode cX6_keyword 0 = .ok (.bipush 100, 2) := by decide +kernel
theorem dX6_keyword_2 : decode cX6_keyword 2 = .ok (.istore_n 3, 1) := by decide +kernel
theorem dX6_keyword_3 : decode cX6_keyword 3 = .ok (.iconst 0, 1) := by decide +kernel
theorem dX6_keyword_4 : decode cX6_keyword 4 = .ok (.istore 4, 2) := by decide +kernel
theorem dX6_keyword_6 : decode cX6_keyword 6 = .ok (.iconst 0, 1) := by decide +kernel
theorem dX6_keyword_7 : decode cX6_keyword 7 = .ok (.istore 5, 2) := by decide +kernel
theorem dX6_keyword_9 : decode cX6_keyword 9 = .ok (.iload 5, 2) := by decide +kernel
theorem dX6_keyword_11 : decode cX6_keyword 11 = .ok (.ldc 129, 2) := by decide +kernel
theorem dX6_keyword_13 : decode cX6_keyword 13 = .ok (.invokevirtual 131, 3) := by decide +kernel
theorem dX6_keyword_16 : decode cX6_keyword 16 = .ok (.if_icmp .ge 54, 3) := by decide +kernel
theorem dX6_keyword_19 : decode cX6_keyword 19 = .ok (.ldc 129, 2) := by decide +kernel
theorem dX6_keyword_21 : decode cX6_keyword 21 = .ok (.iload 5, 2) := by decide +kernel
theorem dX6_keyword_23 : decode cX6_keyword 23 = .ok (.invokevirtual 133, 3) := by decide +kernel
theorem dX6_keyword_26 : decode cX6_keyword 26 = .ok (.bipush 32, 2) := by decide +kernel
theorem dX6_keyword_28 : decode cX6_keyword 28 = .ok (.if_icmp .ne 36, 3) := by decide +kernel
theorem dX6_keyword_31 : decode cX6_keyword 31 = .ok (.iload 5, 2) := by decide +kernel
theorem dX6_keyword_33 : decode cX6_keyword 33 = .ok (.iload 4, 2) := by decide +kernel
theorem dX6_keyword_35 : decode cX6_keyword 35 = .ok (.isub, 1) := by decide +kernel
theorem dX6_keyword_36 : decode cX6_keyword 36 = .ok (.iload_n 2, 1) := by decide +kernel
theorem dX6_keyword_37 : decode cX6_keyword 37 = .ok (.iload_n 1, 1) := by decide +kernel
theorem dX6_keyword_38 : decode cX6_keyword 38 = .ok (.isub, 1) := by decide +kernel
theorem dX6_keyword_39 : decode cX6_keyword 39 = .ok (.if_icmp .ne 16, 3) := by decide +kernel
theorem dX6_keyword_42 : decode cX6_keyword 42 = .ok (.aload_n 0, 1) := by decide +kernel
theorem dX6_keyword_43 : decode cX6_keyword 43 = .ok (.iload_n 1, 1) := by decide +kernel
theorem dX6_keyword_44 : decode cX6_keyword 44 = .ok (.iload_n 2, 1) := by decide +kernel
theorem dX6_keyword_45 : decode cX6_keyword 45 = .ok (.iload 4, 2) := by decide +kernel
theorem dX6_keyword_47 : decode cX6_keyword 47 = .ok (.invokestatic 137, 3) := by decide +kernel
theorem dX6_keyword_50 : decode cX6_keyword 50 = .ok (.ifCond .eq 5, 3) := by decide +kernel
theorem dX6_keyword_53 : decode cX6_keyword 53 = .ok (.iload_n 3, 1) := by decide +kernel
theorem dX6_keyword_54 : decode cX6_keyword 54 = .ok (.ireturn, 1) := by decide +kernel
theorem dX6_keyword_55 : decode cX6_keyword 55 = .ok (.iinc 3 1, 3) := by decide +kernel
theorem dX6_keyword_58 : decode cX6_keyword 58 = .ok (.iload 5, 2) := by decide +kernel
theorem dX6_keyword_60 : decode cX6_keyword 60 = .ok (.iconst 1, 1) := by decide +kernel
theorem dX6_keyword_61 : decode cX6_keyword 61 = .ok (.iadd, 1) := by decide +kernel
theorem dX6_keyword_62 : decode cX6_keyword 62 = .ok (.istore 4, 2) := by decide +kernel
theorem dX6_keyword_64 : decode cX6_keyword 64 = .ok (.iinc 5 1, 3) := by decide +kernel
theorem dX6_keyword_67 : decode cX6_keyword 67 = .ok (.goto (-58), 3) := by decide +kernel
theorem dX6_keyword_70 : decode cX6_keyword 70 = .ok (.iconst 1, 1) := by decide +kernel
theorem dX6_keyword_71 : decode cX6_keyword 71 = .ok (.ireturn, 1) := by decide +kernel
theorem dX6_isKeyword_0 : decode cX6_isKeyword 0 = .ok (.iload_n 1, 1) := by decide +kernel
theorem dX6_isKeyword_1 : decode cX6_isKeyword 1 = .ok (.istore 4, 2) := by decide +kernel
theorem dX6_isKeyword_3 : decode cX6_isKeyword 3 = .ok (.iload 4, 2) := by decide +kernel
theorem dX6_isKeyword_5 : decode cX6_isKeyword 5 = .ok (.iload_n 2, 1) := by decide +kernel
theorem dX6_isKeyword_6 : decode cX6_isKeyword 6 = .ok (.if_icmp .ge 45, 3) := by decide +kernel
theorem dX6_isKeyword_9 : decode cX6_isKeyword 9 = .ok (.iload_n 3, 1) := by decide +kernel
theorem dX6_isKeyword_10 : decode cX6_isKeyword 10 = .ok (.iload 4, 2) := by decide +kernel
theorem dX6_isKeyword_12 : decode cX6_isKeyword 12 = .ok (.iadd, 1) := by decide +kernel
theorem dX6_isKeyword_13 : decode cX6_isKeyword 13 = .ok (.iload_n 1, 1) := by decide +kernel
theorem dX6_isKeyword_14 : decode cX6_isKeyword 14 = .ok (.isub, 1) := by decide +kernel
theorem dX6_isKeyword_15 : decode cX6_isKeyword 15 = .ok (.istore 5, 2) := by decide +kernel
theorem dX6_isKeyword_17 : decode cX6_isKeyword 17 = .ok (.iload 5, 2) := by decide +kernel
theorem dX6_isKeyword_19 : decode cX6_isKeyword 19 = .ok (.ldc 129, 2) := by decide +kernel
theorem dX6_isKeyword_21 : decode cX6_isKeyword 21 = .ok (.invokevirtual 131, 3) := by decide +kernel
theorem dX6_isKeyword_24 : decode cX6_isKeyword 24 = .ok (.if_icmp .ge 19, 3) := by decide +kernel
theorem dX6_isKeyword_27 : decode cX6_isKeyword 27 = .ok (.ldc 129, 2) := by decide +kernel
theorem dX6_isKeyword_29 : decode cX6_isKeyword 29 = .ok (.iload 5, 2) := by decide +kernel
theorem dX6_isKeyword_31 : decode cX6_isKeyword 31 = .ok (.invokevirtual 133, 3) := by decide +kernel
theorem dX6_isKeyword_34 : decode cX6_isKeyword 34 = .ok (.aload_n 0, 1) := by decide +kernel
theorem dX6_isKeyword_35 : decode cX6_isKeyword 35 = .ok (.iload 4, 2) := by decide +kernel
theorem dX6_isKeyword_37 : decode cX6_isKeyword 37 = .ok (.invokevirtual 90, 3) := by decide +kernel
theorem dX6_isKeyword_40 : decode cX6_isKeyword 40 = .ok (.if_icmp .eq 5, 3) := by decide +kernel
theorem dX6_isKeyword_43 : decode cX6_isKeyword 43 = .ok (.iconst 0, 1) := by decide +kernel
theorem dX6_isKeyword_44 : decode cX6_isKeyword 44 = .ok (.ireturn, 1) := by decide +kernel
theorem dX6_isKeyword_45 : decode cX6_isKeyword 45 = .ok (.iinc 4 1, 3) := by decide +kernel
theorem dX6_isKeyword_48 : decode cX6_isKeyword 48 = .ok (.goto (-45), 3) := by decide +kernel
theorem dX6_isKeyword_51 : decode cX6_isKeyword 51 = .ok (.iconst 1, 1) := by decide +kernel
theorem dX6_isKeyword_52 : decode cX6_isKeyword 52 = .ok (.ireturn, 1) := by decide +kernel
theorem dX6_kind_0 : decode cX6_kind 0 = .ok (.aload_n 0, 1) := by decide +kernel
theorem dX6_kind_1 : decode cX6_kind 1 = .ok (.getfield 82, 3) := by decide +kernel
theorem dX6_kind_4 : decode cX6_kind 4 = .ok (.ifCond .lt 24, 3) := by decide +kernel
theorem dX6_kind_7 : decode cX6_kind 7 = .ok (.aload_n 0, 1) := by decide +kernel
theorem dX6_kind_8 : decode cX6_kind 8 = .ok (.getfield 82, 3) := by decide +kernel
theorem dX6_kind_11 : decode cX6_kind 11 = .ok (.aload_n 0, 1) := by decide +kernel
theorem dX6_kind_12 : decode cX6_kind 12 = .ok (.getfield 81, 3) := by decide +kernel
theorem dX6_kind_15 : decode cX6_kind 15 = .ok (.if_icmp .ge 13, 3) := by decide +kernel
theorem dX6_kind_18 : decode cX6_kind 18 = .ok (.aload_n 0, 1) := by decide +kernel
theorem dX6_kind_19 : decode cX6_kind 19 = .ok (.getfield 82, 3) := by decide +kernel
theorem dX6_kind_22 : decode cX6_kind 22 = .ok (.sipush 400, 3) := by decide +kernel
theorem dX6_kind_25 : decode cX6_kind 25 = .ok (.if_icmp .le 7, 3) := by decide +kernel
theorem dX6_kind_28 : decode cX6_kind 28 = .ok (.iconst 0, 1) := by decide +kernel
theorem dX6_kind_29 : decode cX6_kind 29 = .ok (.goto 12, 3) := by decide +kernel
theorem dX6_kind_32 : decode cX6_kind 32 = .ok (.aload_n 0, 1) := by decide +kernel
theorem dX6_kind_33 : decode cX6_kind 33 = .ok (.getfield 15, 3) := by decide +kernel
theorem dX6_kind_36 : decode cX6_kind 36 = .ok (.aload_n 0, 1) := by decide +kernel
theorem dX6_kind_37 : decode cX6_kind 37 = .ok (.getfield 82, 3) := by decide +kernel
theorem dX6_kind_40 : decode cX6_kind 40 = .ok (.iaload, 1) := by decide +kernel
theorem dX6_kind_41 : decode cX6_kind 41 = .ok (.ireturn, 1) := by decide +kernel
theorem dX6_ofNext_0 : decode cX6_ofNext 0 = .ok (.aload_n 0, 1) := by decide +kernel
theorem dX6_ofNext_1 : decode cX6_ofNext 1 = .ok (.getfield 82, 3) := by decide +kernel
theorem dX6_ofNext_4 : decode cX6_ofNext 4 = .ok (.ifCond .lt 23, 3) := by decide +kernel
theorem dX6_ofNext_7 : decode cX6_ofNext 7 = .ok (.aload_n 0, 1) := by decide +kernel
theorem dX6_ofNext_8 : decode cX6_ofNext 8 = .ok (.getfield 82, 3) := by decide +kernel
theorem dX6_ofNext_11 : decode cX6_ofNext 11 = .ok (.aload_n 0, 1) := by decide +kernel
theorem dX6_ofNext_12 : decode cX6_ofNext 12 = .ok (.getfield 81, 3) := by decide +kernel
theorem dX6_ofNext_15 : decode cX6_ofNext 15 = .ok (.if_icmp .ge 12, 3) := by decide +kernel
theorem dX6_ofNext_18 : decode cX6_ofNext 18 = .ok (.aload_n 0, 1) := by decide +kernel
theorem dX6_ofNext_19 : decode cX6_ofNext 19 = .ok (.getfield 82, 3) := by decide +kernel
theorem dX6_ofNext_22 : decode cX6_ofNext 22 = .ok (.aload_n 1, 1) := by decide +kernel
theorem dX6_ofNext_23 : decode cX6_ofNext 23 = .ok (.arraylength, 1) := by decide +kernel
theorem dX6_ofNext_24 : decode cX6_ofNext 24 = .ok (.if_icmp .lt 7, 3) := by decide +kernel
theorem dX6_ofNext_27 : decode cX6_ofNext 27 = .ok (.iconst 0, 1) := by decide +kernel
theorem dX6_ofNext_28 : decode cX6_ofNext 28 = .ok (.goto 9, 3) := by decide +kernel
theorem dX6_ofNext_31 : decode cX6_ofNext 31 = .ok (.aload_n 1, 1) := by decide +kernel
theorem dX6_ofNext_32 : decode cX6_ofNext 32 = .ok (.aload_n 0, 1) := by decide +kernel
theorem dX6_ofNext_33 : decode cX6_ofNext 33 = .ok (.getfield 82, 3) := by decide +kernel
theorem dX6_ofNext_36 : decode cX6_ofNext 36 = .ok (.iaload, 1) := by decide +kernel
theorem dX6_ofNext_37 : decode cX6_ofNext 37 = .ok (.ireturn, 1) := by decide +kernel
theorem dX6_refuse_0 : decode cX6_refuse 0 = .ok (.aload_n 0, 1) := by decide +kernel
theorem dX6_refuse_1 : decode cX6_refuse 1 = .ok (.iload_n 1, 1) := by decide +kernel
theorem dX6_refuse_2 : decode cX6_refuse 2 = .ok (.putfield 25, 3) := by decide +kernel
theorem dX6_refuse_5 : decode cX6_refuse 5 = .ok (.aload_n 0, 1) := by decide +kernel
theorem dX6_refuse_6 : decode cX6_refuse 6 = .ok (.aload_n 0, 1) := by decide +kernel
theorem dX6_refuse_7 : decode cX6_refuse 7 = .ok (.aload_n 0, 1) := by decide +kernel
theorem dX6_refuse_8 : decode cX6_refuse 8 = .ok (.getfield 19, 3) := by decide +kernel
theorem dX6_refuse_11 : decode cX6_refuse 11 = .ok (.invokevirtual 141, 3) := by decide +kernel
theorem dX6_refuse_14 : decode cX6_refuse 14 = .ok (.putfield 9, 3) := by decide +kernel
theorem dX6_refuse_17 : decode cX6_refuse 17 = .ok (.iconst 0, 1) := by decide +kernel
theorem dX6_refuse_18 : decode cX6_refuse 18 = .ok (.ireturn, 1) := by decide +kernel
theorem dX6_take_0 : decode cX6_take 0 = .ok (.aload_n 0, 1) := by decide +kernel
theorem dX6_take_1 : decode cX6_take 1 = .ok (.invokevirtual 62, 3) := by decide +kernel
theorem dX6_take_4 : decode cX6_take 4 = .ok (.iload_n 1, 1) := by decide +kernel
theorem dX6_take_5 : decode cX6_take 5 = .ok (.if_icmp .eq 9, 3) := by decide +kernel
theorem dX6_take_8 : decode cX6_take 8 = .ok (.aload_n 0, 1) := by decide +kernel
theorem dX6_take_9 : decode cX6_take 9 = .ok (.iconst 1, 1) := by decide +kernel
theorem dX6_take_10 : decode cX6_take 10 = .ok (.invokevirtual 145, 3) := by decide +kernel
theorem dX6_take_13 : decode cX6_take 13 = .ok (.ireturn, 1) := by decide +kernel
theorem dX6_take_14 : decode cX6_take 14 = .ok (.aload_n 0, 1) := by decide +kernel
theorem dX6_take_15 : decode cX6_take 15 = .ok (.dup, 1) := by decide +kernel
theorem dX6_take_16 : decode cX6_take 16 = .ok (.getfield 82, 3) := by decide +kernel
theorem dX6_take_19 : decode cX6_take 19 = .ok (.iconst 1, 1) := by decide +kernel
theorem dX6_take_20 : decode cX6_take 20 = .ok (.iadd, 1) := by decide +kernel
theorem dX6_take_21 : decode cX6_take 21 = .ok (.putfield 82, 3) := by decide +kernel
theorem dX6_take_24 : decode cX6_take 24 = .ok (.iconst 1, 1) := by decide +kernel
theorem dX6_take_25 : decode cX6_take 25 = .ok (.ireturn, 1) := by decide +kernel
theorem dX6_takeNumber_0 : decode cX6_takeNumber 0 = .ok (.aload_n 0, 1) := by decide +kernel
theorem dX6_takeNumber_1 : decode cX6_takeNumber 1 = .ok (.invokevirtual 62, 3) := by decide +kernel
theorem dX6_takeNumber_4 : decode cX6_takeNumber 4 = .ok (.iconst 2, 1) := by decide +kernel
theorem dX6_takeNumber_5 : decode cX6_takeNumber 5 = .ok (.if_icmp .eq 9, 3) := by decide +kernel
theorem dX6_takeNumber_8 : decode cX6_takeNumber 8 = .ok (.aload_n 0, 1) := by decide +kernel
theorem dX6_takeNumber_9 : decode cX6_takeNumber 9 = .ok (.iconst 1, 1) := by decide +kernel
theorem dX6_takeNumber_10 : decode cX6_takeNumber 10 = .ok (.invokevirtual 145, 3) := by decide +kernel
theorem dX6_takeNumber_13 : decode cX6_takeNumber 13 = .ok (.ireturn, 1) := by decide +kernel
theorem dX6_takeNumber_14 : decode cX6_takeNumber 14 = .ok (.aload_n 0, 1) := by decide +kernel
theorem dX6_takeNumber_15 : decode cX6_takeNumber 15 = .ok (.aload_n 0, 1) := by decide +kernel
theorem dX6_takeNumber_16 : decode cX6_takeNumber 16 = .ok (.aload_n 0, 1) := by decide +kernel
theorem dX6_takeNumber_17 : decode cX6_takeNumber 17 = .ok (.getfield 22, 3) := by decide +kernel
theorem dX6_takeNumber_20 : decode cX6_takeNumber 20 = .ok (.invokevirtual 141, 3) := by decide +kernel
theorem dX6_takeNumber_23 : decode cX6_takeNumber 23 = .ok (.putfield 148, 3) := by decide +kernel
theorem dX6_takeNumber_26 : decode cX6_takeNumber 26 = .ok (.aload_n 0, 1) := by decide +kernel
theorem dX6_takeNumber_27 : decode cX6_takeNumber 27 = .ok (.getfield 148, 3) := by decide +kernel
theorem dX6_takeNumber_30 : decode cX6_takeNumber 30 = .ok (.iload_n 1, 1) := by decide +kernel
theorem dX6_takeNumber_31 : decode cX6_takeNumber 31 = .ok (.if_icmp .lt 11, 3) := by decide +kernel
theorem dX6_takeNumber_34 : decode cX6_takeNumber 34 = .ok (.aload_n 0, 1) := by decide +kernel
theorem dX6_takeNumber_35 : decode cX6_takeNumber 35 = .ok (.getfield 148, 3) := by decide +kernel
theorem dX6_takeNumber_38 : decode cX6_takeNumber 38 = .ok (.iload_n 2, 1) := by decide +kernel
theorem dX6_takeNumber_39 : decode cX6_takeNumber 39 = .ok (.if_icmp .le 9, 3) := by decide +kernel
theorem dX6_takeNumber_42 : decode cX6_takeNumber 42 = .ok (.aload_n 0, 1) := by decide +kernel
theorem dX6_takeNumber_43 : decode cX6_takeNumber 43 = .ok (.iconst 2, 1) := by decide +kernel
theorem dX6_takeNumber_44 : decode cX6_takeNumber 44 = .ok (.invokevirtual 145, 3) := by decide +kernel
theorem dX6_takeNumber_47 : decode cX6_takeNumber 47 = .ok (.ireturn, 1) := by decide +kernel
theorem dX6_takeNumber_48 : decode cX6_takeNumber 48 = .ok (.aload_n 0, 1) := by decide +kernel
theorem dX6_takeNumber_49 : decode cX6_takeNumber 49 = .ok (.dup, 1) := by decide +kernel
theorem dX6_takeNumber_50 : decode cX6_takeNumber 50 = .ok (.getfield 82, 3) := by decide +kernel
theorem dX6_takeNumber_53 : decode cX6_takeNumber 53 = .ok (.iconst 1, 1) := by decide +kernel
theorem dX6_takeNumber_54 : decode cX6_takeNumber 54 = .ok (.iadd, 1) := by decide +kernel
theorem dX6_takeNumber_55 : decode cX6_takeNumber 55 = .ok (.putfield 82, 3) := by decide +kernel
theorem dX6_takeNumber_58 : decode cX6_takeNumber 58 = .ok (.iconst 1, 1) := by decide +kernel
theorem dX6_takeNumber_59 : decode cX6_takeNumber 59 = .ok (.ireturn, 1) := by decide +kernel
theorem dX6_takeHead_0 : decode cX6_takeHead 0 = .ok (.aload_n 0, 1) := by decide +kernel
theorem dX6_takeHead_1 : decode cX6_takeHead 1 = .ok (.invokevirtual 62, 3) := by decide +kernel
theorem dX6_takeHead_4 : decode cX6_takeHead 4 = .ok (.iload_n 1, 1) := by decide +kernel
theorem dX6_takeHead_5 : decode cX6_takeHead 5 = .ok (.if_icmp .eq 9, 3) := by decide +kernel
theorem dX6_takeHead_8 : decode cX6_takeHead 8 = .ok (.aload_n 0, 1) := by decide +kernel
theorem dX6_takeHead_9 : decode cX6_takeHead 9 = .ok (.iconst 1, 1) := by decide +kernel
theorem dX6_takeHead_10 : decode cX6_takeHead 10 = .ok (.invokevirtual 145, 3) := by decide +kernel
theorem dX6_takeHead_13 : decode cX6_takeHead 13 = .ok (.ireturn, 1) := by decide +kernel
theorem dX6_takeHead_14 : decode cX6_takeHead 14 = .ok (.iload_n 2, 1) := by decide +kernel
theorem dX6_takeHead_15 : decode cX6_takeHead 15 = .ok (.iload_n 3, 1) := by decide +kernel
theorem dX6_takeHead_16 : decode cX6_takeHead 16 = .ok (.if_icmp .lt 9, 3) := by decide +kernel
theorem dX6_takeHead_19 : decode cX6_takeHead 19 = .ok (.aload_n 0, 1) := by decide +kernel
theorem dX6_takeHead_20 : decode cX6_takeHead 20 = .ok (.iconst 3, 1) := by decide +kernel
theorem dX6_takeHead_21 : decode cX6_takeHead 21 = .ok (.invokevirtual 145, 3) := by decide +kernel
theorem dX6_takeHead_24 : decode cX6_takeHead 24 = .ok (.ireturn, 1) := by decide +kernel
theorem dX6_takeHead_25 : decode cX6_takeHead 25 = .ok (.aload_n 0, 1) := by decide +kernel
theorem dX6_takeHead_26 : decode cX6_takeHead 26 = .ok (.dup, 1) := by decide +kernel
theorem dX6_takeHead_27 : decode cX6_takeHead 27 = .ok (.getfield 82, 3) := by decide +kernel
theorem dX6_takeHead_30 : decode cX6_takeHead 30 = .ok (.iconst 1, 1) := by decide +kernel
theorem dX6_takeHead_31 : decode cX6_takeHead 31 = .ok (.iadd, 1) := by decide +kernel
theorem dX6_takeHead_32 : decode cX6_takeHead 32 = .ok (.putfield 82, 3) := by decide +kernel
theorem dX6_takeHead_35 : decode cX6_takeHead 35 = .ok (.iconst 1, 1) := by decide +kernel
theorem dX6_takeHead_36 : decode cX6_takeHead 36 = .ok (.ireturn, 1) := by decide +kernel
theorem dX6_readMeaning_0 : decode cX6_readMeaning 0 = .ok (.aload_n 0, 1) := by decide +kernel
theorem dX6_readMeaning_1 : decode cX6_readMeaning 1 = .ok (.bipush 100, 2) := by decide +kernel
theorem dX6_readMeaning_3 : decode cX6_readMeaning 3 = .ok (.aload_n 2, 1) := by decide +kernel
theorem dX6_readMeaning_4 : decode cX6_readMeaning 4 = .ok (.getfield 38, 3) := by decide +kernel
theorem dX6_readMeaning_7 : decode cX6_readMeaning 7 = .ok (.bipush 10, 2) := by decide +kernel
theorem dX6_readMeaning_9 : decode cX6_readMeaning 9 = .ok (.invokevirtual 151, 3) := by decide +kernel
theorem dX6_readMeaning_12 : decode cX6_readMeaning 12 = .ok (.ifCond .ne 5, 3) := by decide +kernel
theorem dX6_readMeaning_15 : decode cX6_readMeaning 15 = .ok (.iconst 0, 1) := by decide +kernel
theorem dX6_readMeaning_16 : decode cX6_readMeaning 16 = .ok (.ireturn, 1) := by decide +kernel
theorem dX6_readMeaning_17 : decode cX6_readMeaning 17 = .ok (.aload_n 2, 1) := by decide +kernel
theorem dX6_readMeaning_18 : decode cX6_readMeaning 18 = .ok (.invokevirtual 155, 3) := by decide +kernel
theorem dX6_readMeaning_21 : decode cX6_readMeaning 21 = .ok (.iconst 0, 1) := by decide +kernel
theorem dX6_readMeaning_22 : decode cX6_readMeaning 22 = .ok (.istore_n 3, 1) := by decide +kernel
theorem dX6_readMeaning_23 : decode cX6_readMeaning 23 = .ok (.iload_n 3, 1) := by decide +kernel
theorem dX6_readMeaning_24 : decode cX6_readMeaning 24 = .ok (.bipush 6, 2) := by decide +kernel
theorem dX6_readMeaning_26 : decode cX6_readMeaning 26 = .ok (.if_icmp .gt 59, 3) := by decide +kernel
theorem dX6_readMeaning_29 : decode cX6_readMeaning 29 = .ok (.aload_n 0, 1) := by decide +kernel
theorem dX6_readMeaning_30 : decode cX6_readMeaning 30 = .ok (.aload_n 1, 1) := by decide +kernel
theorem dX6_readMeaning_31 : decode cX6_readMeaning 31 = .ok (.aload_n 2, 1) := by decide +kernel
theorem dX6_readMeaning_32 : decode cX6_readMeaning 32 = .ok (.invokevirtual 158, 3) := by decide +kernel
theorem dX6_readMeaning_35 : decode cX6_readMeaning 35 = .ok (.ifCond .ne 5, 3) := by decide +kernel
theorem dX6_readMeaning_38 : decode cX6_readMeaning 38 = .ok (.iconst 0, 1) := by decide +kernel
theorem dX6_readMeaning_39 : decode cX6_readMeaning 39 = .ok (.ireturn, 1) := by decide +kernel
theorem dX6_readMeaning_40 : decode cX6_readMeaning 40 = .ok (.aload_n 0, 1) := by decide +kernel
theorem dX6_readMeaning_41 : decode cX6_readMeaning 41 = .ok (.invokevirtual 62, 3) := by decide +kernel
theorem dX6_readMeaning_44 : decode cX6_readMeaning 44 = .ok (.bipush 101, 2) := by decide +kernel
theorem dX6_readMeaning_46 : decode cX6_readMeaning 46 = .ok (.if_icmp .eq 10, 3) := by decide +kernel
theorem dX6_readMeaning_49 : decode cX6_readMeaning 49 = .ok (.aload_n 0, 1) := by decide +kernel
theorem dX6_readMeaning_50 : decode cX6_readMeaning 50 = .ok (.bipush 59, 2) := by decide +kernel
theorem dX6_readMeaning_52 : decode cX6_readMeaning 52 = .ok (.invokevirtual 161, 3) := by decide +kernel
theorem dX6_readMeaning_55 : decode cX6_readMeaning 55 = .ok (.ireturn, 1) := by decide +kernel
theorem dX6_readMeaning_56 : decode cX6_readMeaning 56 = .ok (.aload_n 2, 1) := by decide +kernel
theorem dX6_readMeaning_57 : decode cX6_readMeaning 57 = .ok (.invokevirtual 164, 3) := by decide +kernel
theorem dX6_readMeaning_60 : decode cX6_readMeaning 60 = .ok (.ifCond .eq 9, 3) := by decide +kernel
theorem dX6_readMeaning_63 : decode cX6_readMeaning 63 = .ok (.aload_n 0, 1) := by decide +kernel
theorem dX6_readMeaning_64 : decode cX6_readMeaning 64 = .ok (.iconst 3, 1) := by decide +kernel
theorem dX6_readMeaning_65 : decode cX6_readMeaning 65 = .ok (.invokevirtual 145, 3) := by decide +kernel
theorem dX6_readMeaning_68 : decode cX6_readMeaning 68 = .ok (.ireturn, 1) := by decide +kernel
theorem dX6_readMeaning_69 : decode cX6_readMeaning 69 = .ok (.aload_n 0, 1) := by decide +kernel
theorem dX6_readMeaning_70 : decode cX6_readMeaning 70 = .ok (.dup, 1) := by decide +kernel
theorem dX6_readMeaning_71 : decode cX6_readMeaning 71 = .ok (.getfield 82, 3) := by decide +kernel
theorem dX6_readMeaning_74 : decode cX6_readMeaning 74 = .ok (.iconst 1, 1) := by decide +kernel
theorem dX6_readMeaning_75 : decode cX6_readMeaning 75 = .ok (.iadd, 1) := by decide +kernel
theorem dX6_readMeaning_76 : decode cX6_readMeaning 76 = .ok (.putfield 82, 3) := by decide +kernel
theorem dX6_readMeaning_79 : decode cX6_readMeaning 79 = .ok (.iinc 3 1, 3) := by decide +kernel
theorem dX6_readMeaning_82 : decode cX6_readMeaning 82 = .ok (.goto (-59), 3) := by decide +kernel
theorem dX6_readMeaning_85 : decode cX6_readMeaning 85 = .ok (.iconst 0, 1) := by decide +kernel
theorem dX6_readMeaning_86 : decode cX6_readMeaning 86 = .ok (.ireturn, 1) := by decide +kernel
theorem dX6_readWording_0 : decode cX6_readWording 0 = .ok (.iconst 0, 1) := by decide +kernel
theorem dX6_readWording_1 : decode cX6_readWording 1 = .ok (.istore_n 3, 1) := by decide +kernel
theorem dX6_readWording_2 : decode cX6_readWording 2 = .ok (.iconst 0, 1) := by decide +kernel
theorem dX6_readWording_3 : decode cX6_readWording 3 = .ok (.istore 4, 2) := by decide +kernel
theorem dX6_readWording_5 : decode cX6_readWording 5 = .ok (.iconst 0, 1) := by decide +kernel
theorem dX6_readWording_6 : decode cX6_readWording 6 = .ok (.istore 5, 2) := by decide +kernel
theorem dX6_readWording_8 : decode cX6_readWording 8 = .ok (.iload 5, 2) := by decide +kernel
theorem dX6_readWording_10 : decode cX6_readWording 10 = .ok (.bipush 6, 2) := by decide +kernel
theorem dX6_readWording_12 : decode cX6_readWording 12 = .ok (.if_icmp .gt 89, 3) := by decide +kernel
theorem dX6_readWording_15 : decode cX6_readWording 15 = .ok (.iload 5, 2) := by decide +kernel
theorem dX6_readWording_17 : decode cX6_readWording 17 = .ok (.ifCond .le 14, 3) := by decide +kernel
theorem dX6_readWording_20 : decode cX6_readWording 20 = .ok (.aload_n 0, 1) := by decide +kernel
theorem dX6_readWording_21 : decode cX6_readWording 21 = .ok (.invokevirtual 62, 3) := by decide +kernel
theorem dX6_readWording_24 : decode cX6_readWording 24 = .ok (.iconst 2, 1) := by decide +kernel
theorem dX6_readWording_25 : decode cX6_readWording 25 = .ok (.if_icmp .eq 6, 3) := by decide +kernel
theorem dX6_readWording_28 : decode cX6_readWording 28 = .ok (.goto 73, 3) := by decide +kernel
theorem dX6_readWording_31 : decode cX6_readWording 31 = .ok (.aload_n 0, 1) := by decide +kernel
theorem dX6_readWording_32 : decode cX6_readWording 32 = .ok (.getfield 82, 3) := by decide +kernel
theorem dX6_readWording_35 : decode cX6_readWording 35 = .ok (.istore 6, 2) := by decide +kernel
theorem dX6_readWording_37 : decode cX6_readWording 37 = .ok (.aload_n 0, 1) := by decide +kernel
theorem dX6_readWording_38 : decode cX6_readWording 38 = .ok (.iconst 0, 1) := by decide +kernel
theorem dX6_readWording_39 : decode cX6_readWording 39 = .ok (.aload_n 1, 1) := by decide +kernel
theorem dX6_readWording_40 : decode cX6_readWording 40 = .ok (.getfield 168, 3) := by decide +kernel
theorem dX6_readWording_43 : decode cX6_readWording 43 = .ok (.iconst 1, 1) := by decide +kernel
theorem dX6_readWording_44 : decode cX6_readWording 44 = .ok (.isub, 1) := by decide +kernel
theorem dX6_readWording_45 : decode cX6_readWording 45 = .ok (.invokevirtual 171, 3) := by decide +kernel
theorem dX6_readWording_48 : decode cX6_readWording 48 = .ok (.ifCond .ne 5, 3) := by decide +kernel
theorem dX6_readWording_51 : decode cX6_readWording 51 = .ok (.iconst 0, 1) := by decide +kernel
theorem dX6_readWording_52 : decode cX6_readWording 52 = .ok (.ireturn, 1) := by decide +kernel
theorem dX6_readWording_53 : decode cX6_readWording 53 = .ok (.iload 5, 2) := by decide +kernel
theorem dX6_readWording_55 : decode cX6_readWording 55 = .ok (.bipush 6, 2) := by decide +kernel
theorem dX6_readWording_57 : decode cX6_readWording 57 = .ok (.if_icmp .ne 15, 3) := by decide +kernel
theorem dX6_readWording_60 : decode cX6_readWording 60 = .ok (.aload_n 0, 1) := by decide +kernel
theorem dX6_readWording_61 : decode cX6_readWording 61 = .ok (.iload 6, 2) := by decide +kernel
theorem dX6_readWording_63 : decode cX6_readWording 63 = .ok (.putfield 82, 3) := by decide +kernel
theorem dX6_readWording_66 : decode cX6_readWording 66 = .ok (.aload_n 0, 1) := by decide +kernel
theorem dX6_readWording_67 : decode cX6_readWording 67 = .ok (.iconst 3, 1) := by decide +kernel
theorem dX6_readWording_68 : decode cX6_readWording 68 = .ok (.invokevirtual 145, 3) := by decide +kernel
theorem dX6_readWording_71 : decode cX6_readWording 71 = .ok (.ireturn, 1) := by decide +kernel
theorem dX6_readWording_72 : decode cX6_readWording 72 = .ok (.iload_n 3, 1) := by decide +kernel
theorem dX6_readWording_73 : decode cX6_readWording 73 = .ok (.iconst 1, 1) := by decide +kernel
theorem dX6_readWording_74 : decode cX6_readWording 74 = .ok (.aload_n 0, 1) := by decide +kernel
theorem dX6_readWording_75 : decode cX6_readWording 75 = .ok (.getfield 148, 3) := by decide +kernel
theorem dX6_readWording_78 : decode cX6_readWording 78 = .ok (.ishl, 1) := by decide +kernel
theorem dX6_readWording_79 : decode cX6_readWording 79 = .ok (.ior, 1) := by decide +kernel
theorem dX6_readWording_80 : decode cX6_readWording 80 = .ok (.istore_n 3, 1) := by decide +kernel
theorem dX6_readWording_81 : decode cX6_readWording 81 = .ok (.iload 4, 2) := by decide +kernel
theorem dX6_readWording_83 : decode cX6_readWording 83 = .ok (.aload_n 1, 1) := by decide +kernel
theorem dX6_readWording_84 : decode cX6_readWording 84 = .ok (.getfield 175, 3) := by decide +kernel
theorem dX6_readWording_87 : decode cX6_readWording 87 = .ok (.aload_n 0, 1) := by decide +kernel
theorem dX6_readWording_88 : decode cX6_readWording 88 = .ok (.getfield 148, 3) := by decide +kernel
theorem dX6_readWording_91 : decode cX6_readWording 91 = .ok (.iaload, 1) := by decide +kernel
theorem dX6_readWording_92 : decode cX6_readWording 92 = .ok (.iadd, 1) := by decide +kernel
theorem dX6_readWording_93 : decode cX6_readWording 93 = .ok (.istore 4, 2) := by decide +kernel
theorem dX6_readWording_95 : decode cX6_readWording 95 = .ok (.iinc 5 1, 3) := by decide +kernel
theorem dX6_readWording_98 : decode cX6_readWording 98 = .ok (.goto (-90), 3) := by decide +kernel
theorem dX6_readWording_101 : decode cX6_readWording 101 = .ok (.aload_n 2, 1) := by decide +kernel
