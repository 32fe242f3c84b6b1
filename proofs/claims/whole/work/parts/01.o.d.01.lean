theorem dX6_takeNumber_8 : decode cX6_takeNumber 8 = .ok (.aload_n 0, 1) := by decide +kernel
theorem dX6_takeNumber_9 : decode cX6_takeNumber 9 = .ok (.iconst 1, 1) := by decide +kernel
theorem dX6_takeNumber_10 : decode cX6_takeNumber 10 = .ok (.invokevirtual 145, 3) := by decide +kernel
theorem dX6_takeNumber_13 : decode cX6_takeNumber 13 = .ok (.ireturn, 1) := by decide +kernel
theorem dX6_takeNumber_14 : decode cX6_takeNumber 14 = .ok (.aload_n 0, 1) := by decide +kernel
theorem dX6_takeNumber_15 : decode cX6_takeNumber 15 = .ok (.aload_n 0, 1) := by decide +kernel
theorem dX6_takeNumber_16 : decode cX6_takeNumber 16 = .ok (.aload_n 0, 1) := by decide +kernel
theorem dX6_takeNumber_17 : decode cX6_takeNumber 17 = .ok (.getfield 22, 3) := by decide +kernel
theorem dX6_takeNumber_20 : decode cX6_takeNumber 20 = .ok (.invokevirtual 141, 3) := by decide +kernel
theorem dX6_takeNumber_23 : decode cX6_takeNumber 23 = .ok (.putfield 148, 3) := by decide +kernel
theorem dX6_takeNumber_26 : decode cX6_takeNumber 26 = .ok (.aload_n 0, 1) := by decide +kernel
theorem dX6_takeNumber_27 : decode cX6_takeNumber 27 = .ok (.getfield 148, 3) := by decide +kernel
theorem dX6_takeNumber_30 : decode cX6_takeNumber 30 = .ok (.iload_n 1, 1) := by decide +kernel
theorem dX6_takeNumber_31 : decode cX6_takeNumber 31 = .ok (.if_icmp .lt 11, 3) := by decide +kernel
theorem dX6_takeNumber_34 : decode cX6_takeNumber 34 = .ok (.aload_n 0, 1) := by decide +kernel
theorem dX6_takeNumber_35 : decode cX6_takeNumber 35 = .ok (.getfield 148, 3) := by decide +kernel
theorem dX6_takeNumber_38 : decode cX6_takeNumber 38 = .ok (.iload_n 2, 1) := by decide +kernel
theorem dX6_takeNumber_39 : decode cX6_takeNumber 39 = .ok (.if_icmp .le 9, 3) := by decide +kernel
theorem dX6_takeNumber_42 : decode cX6_takeNumber 42 = .ok (.aload_n 0, 1) := by decide +kernel
theorem dX6_takeNumber_43 : decode cX6_takeNumber 43 = .ok (.iconst 2, 1) := by decide +kernel
theorem dX6_takeNumber_44 : decode cX6_takeNumber 44 = .ok (.invokevirtual 145, 3) := by decide +kernel
theorem dX6_takeNumber_47 : decode cX6_takeNumber 47 = .ok (.ireturn, 1) := by decide +kernel
theorem dX6_takeNumber_48 : decode cX6_takeNumber 48 = .ok (.aload_n 0, 1) := by decide +kernel
theorem dX6_takeNumber_49 : decode cX6_takeNumber 49 = .ok (.dup, 1) := by decide +kernel
theorem dX6_takeNumber_50 : decode cX6_takeNumber 50 = .ok (.getfield 82, 3) := by decide +kernel
theorem dX6_takeNumber_53 : decode cX6_takeNumber 53 = .ok (.iconst 1, 1) := by decide +kernel
theorem dX6_takeNumber_54 : decode cX6_takeNumber 54 = .ok (.iadd, 1) := by decide +kernel
theorem dX6_takeNumber_55 : decode cX6_takeNumber 55 = .ok (.putfield 82, 3) := by decide +kernel
theorem dX6_takeNumber_58 : decode cX6_takeNumber 58 = .ok (.iconst 1, 1) := by decide +kernel
theorem dX6_takeNumber_59 : decode cX6_takeNumber 59 = .ok (.ireturn, 1) := by decide +kernel
theorem dX6_takeHead_0 : decode cX6_takeHead 0 = .ok (.aload_n 0, 1) := by decide +kernel
theorem dX6_takeHead_1 : decode cX6_takeHead 1 = .ok (.invokevirtual 62, 3) := by decide +kernel
theorem dX6_takeHead_4 : decode cX6_takeHead 4 = .ok (.iload_n 1, 1) := by decide +kernel
theorem dX6_takeHead_5 : decode cX6_takeHead 5 = .ok (.if_icmp .eq 9, 3) := by decide +kernel
theorem dX6_takeHead_8 : decode cX6_takeHead 8 = .ok (.aload_n 0, 1) := by decide +kernel
theorem dX6_takeHead_9 : decode cX6_takeHead 9 = .ok (.iconst 1, 1) := by decide +kernel
theorem dX6_takeHead_10 : decode cX6_takeHead 10 = .ok (.invokevirtual 145, 3) := by decide +kernel
theorem dX6_takeHead_13 : decode cX6_takeHead 13 = .ok (.ireturn, 1) := by decide +kernel
theorem dX6_takeHead_14 : decode cX6_takeHead 14 = .ok (.iload_n 2, 1) := by decide +kernel
theorem dX6_takeHead_15 : decode cX6_takeHead 15 = .ok (.iload_n 3, 1) := by decide +kernel
theorem dX6_takeHead_16 : decode cX6_takeHead 16 = .ok (.if_icmp .lt 9, 3) := by decide +kernel
theorem dX6_takeHead_19 : decode cX6_takeHead 19 = .ok (.aload_n 0, 1) := by decide +kernel
theorem dX6_takeHead_20 : decode cX6_takeHead 20 = .ok (.iconst 3, 1) := by decide +kernel
theorem dX6_takeHead_21 : decode cX6_takeHead 21 = .ok (.invokevirtual 145, 3) := by decide +kernel
theorem dX6_takeHead_24 : decode cX6_takeHead 24 = .ok (.ireturn, 1) := by decide +kernel
theorem dX6_takeHead_25 : decode cX6_takeHead 25 = .ok (.aload_n 0, 1) := by decide +kernel
theorem dX6_takeHead_26 : decode cX6_takeHead 26 = .ok (.dup, 1) := by decide +kernel
theorem dX6_takeHead_27 : decode cX6_takeHead 27 = .ok (.getfield 82, 3) := by decide +kernel
theorem dX6_takeHead_30 : decode cX6_takeHead 30 = .ok (.iconst 1, 1) := by decide +kernel
theorem dX6_takeHead_31 : decode cX6_takeHead 31 = .ok (.iadd, 1) := by decide +kernel
theorem dX6_takeHead_32 : decode cX6_takeHead 32 = .ok (.putfield 82, 3) := by decide +kernel
theorem dX6_takeHead_35 : decode cX6_takeHead 35 = .ok (.iconst 1, 1) := by decide +kernel
theorem dX6_takeHead_36 : decode cX6_takeHead 36 = .ok (.ireturn, 1) := by decide +kernel
theorem dX6_readMeaning_0 : decode cX6_readMeaning 0 = .ok (.aload_n 0, 1) := by decide +kernel
theorem dX6_readMeaning_1 : decode cX6_readMeaning 1 = .ok (.bipush 100, 2) := by decide +kernel
theorem dX6_readMeaning_3 : decode cX6_readMeaning 3 = .ok (.aload_n 2, 1) := by decide +kernel
theorem dX6_readMeaning_4 : decode cX6_readMeaning 4 = .ok (.getfield 38, 3) := by decide +kernel
theorem dX6_readMeaning_7 : decode cX6_readMeaning 7 = .ok (.bipush 10, 2) := by decide +kernel
theorem dX6_readMeaning_9 : decode cX6_readMeaning 9 = .ok (.invokevirtual 151, 3) := by decide +kernel
theorem dX6_readMeaning_12 : decode cX6_readMeaning 12 = .ok (.ifCond .ne 5, 3) := by decide +kernel
theorem dX6_readMeaning_15 : decode cX6_readMeaning 15 = .ok (.iconst 0, 1) := by decide +kernel
theorem dX6_readMeaning_16 : decode cX6_readMeaning 16 = .ok (.ireturn, 1) := by decide +kernel
theorem dX6_readMeaning_17 : decode cX6_readMeaning 17 = .ok (.aload_n 2, 1) := by decide +kernel
theorem dX6_readMeaning_18 : decode cX6_readMeaning 18 = .ok (.invokevirtual 155, 3) := by decide +kernel
theorem dX6_readMeaning_21 : decode cX6_readMeaning 21 = .ok (.iconst 0, 1) := by decide +kernel
theorem dX6_readMeaning_22 : decode cX6_readMeaning 22 = .ok (.istore_n 3, 1) := by decide +kernel
theorem dX6_readMeaning_23 : decode cX6_readMeaning 23 = .ok (.iload_n 3, 1) := by decide +kernel
theorem dX6_readMeaning_24 : decode cX6_readMeaning 24 = .ok (.bipush 6, 2) := by decide +kernel
theorem dX6_readMeaning_26 : decode cX6_readMeaning 26 = .ok (.if_icmp .gt 59, 3) := by decide +kernel
theorem dX6_readMeaning_29 : decode cX6_readMeaning 29 = .ok (.aload_n 0, 1) := by decide +kernel
theorem dX6_readMeaning_30 : decode cX6_readMeaning 30 = .ok (.aload_n 1, 1) := by decide +kernel
theorem dX6_readMeaning_31 : decode cX6_readMeaning 31 = .ok (.aload_n 2, 1) := by decide +kernel
theorem dX6_readMeaning_32 : decode cX6_readMeaning 32 = .ok (.invokevirtual 158, 3) := by decide +kernel
theorem dX6_readMeaning_35 : decode cX6_readMeaning 35 = .ok (.ifCond .ne 5, 3) := by decide +kernel
theorem dX6_readMeaning_38 : decode cX6_readMeaning 38 = .ok (.iconst 0, 1) := by decide +kernel
theorem dX6_readMeaning_39 : decode cX6_readMeaning 39 = .ok (.ireturn, 1) := by decide +kernel
theorem dX6_readMeaning_40 : decode cX6_readMeaning 40 = .ok (.aload_n 0, 1) := by decide +kernel
theorem dX6_readMeaning_41 : decode cX6_readMeaning 41 = .ok (.invokevirtual 62, 3) := by decide +kernel
theorem dX6_readMeaning_44 : decode cX6_readMeaning 44 = .ok (.bipush 101, 2) := by decide +kernel
theorem dX6_readMeaning_46 : decode cX6_readMeaning 46 = .ok (.if_icmp .eq 10, 3) := by decide +kernel
theorem dX6_readMeaning_49 : decode cX6_readMeaning 49 = .ok (.aload_n 0, 1) := by decide +kernel
theorem dX6_readMeaning_50 : decode cX6_readMeaning 50 = .ok (.bipush 59, 2) := by decide +kernel
theorem dX6_readMeaning_52 : decode cX6_readMeaning 52 = .ok (.invokevirtual 161, 3) := by decide +kernel
theorem dX6_readMeaning_55 : decode cX6_readMeaning 55 = .ok (.ireturn, 1) := by decide +kernel
theorem dX6_readMeaning_56 : decode cX6_readMeaning 56 = .ok (.aload_n 2, 1) := by decide +kernel
theorem dX6_readMeaning_57 : decode cX6_readMeaning 57 = .ok (.invokevirtual 164, 3) := by decide +kernel
theorem dX6_readMeaning_60 : decode cX6_readMeaning 60 = .ok (.ifCond .eq 9, 3) := by decide +kernel
theorem dX6_readMeaning_63 : decode cX6_readMeaning 63 = .ok (.aload_n 0, 1) := by decide +kernel
theorem dX6_readMeaning_64 : decode cX6_readMeaning 64 = .ok (.iconst 3, 1) := by decide +kernel
theorem dX6_readMeaning_65 : decode cX6_readMeaning 65 = .ok (.invokevirtual 145, 3) := by decide +kernel
theorem dX6_readMeaning_68 : decode cX6_readMeaning 68 = .ok (.ireturn, 1) := by decide +kernel
theorem dX6_readMeaning_69 : decode cX6_readMeaning 69 = .ok (.aload_n 0, 1) := by decide +kernel
theorem dX6_readMeaning_70 : decode cX6_readMeaning 70 = .ok (.dup, 1) := by decide +kernel
theorem dX6_readMeaning_71 : decode cX6_readMeaning 71 = .ok (.getfield 82, 3) := by decide +kernel
theorem dX6_readMeaning_74 : decode cX6_readMeaning 74 = .ok (.iconst 1, 1) := by decide +kernel
theorem dX6_readMeaning_75 : decode cX6_readMeaning 75 = .ok (.iadd, 1) := by decide +kernel
theorem dX6_readMeaning_76 : decode cX6_readMeaning 76 = .ok (.putfield 82, 3) := by decide +kernel
theorem dX6_readMeaning_79 : decode cX6_readMeaning 79 = .ok (.iinc 3 1, 3) := by decide +kernel
theorem dX6_readMeaning_82 : decode cX6_readMeaning 82 = .ok (.goto (-59), 3) := by decide +kernel
theorem dX6_readMeaning_85 : decode cX6_readMeaning 85 = .ok (.iconst 0, 1) := by decide +kernel
theorem dX6_readMeaning_86 : decode cX6_readMeaning 86 = .ok (.ireturn, 1) := by decide +kernel
theorem dX6_readWording_0 : decode cX6_readWording 0 = .ok (.iconst 0, 1) := by decide +kernel
theorem dX6_readWording_1 : decode cX6_readWording 1 = .ok (.istore_n 3, 1) := by decide +kernel
theorem dX6_readWording_2 : decode cX6_readWording 2 = .ok (.iconst 0, 1) := by decide +kernel
theorem dX6_readWording_3 : decode cX6_readWording 3 = .ok (.istore 4, 2) := by decide +kernel
theorem dX6_readWording_5 : decode cX6_readWording 5 = .ok (.iconst 0, 1) := by decide +kernel
theorem dX6_readWording_6 : decode cX6_readWording 6 = .ok (.istore 5, 2) := by decide +kernel
theorem dX6_readWording_8 : decode cX6_readWording 8 = .ok (.iload 5, 2) := by decide +kernel
theorem dX6_readWording_10 : decode cX6_readWording 10 = .ok (.bipush 6, 2) := by decide +kernel
theorem dX6_readWording_12 : decode cX6_readWording 12 = .ok (.if_icmp .gt 89, 3) := by decide +kernel
theorem dX6_readWording_15 : decode cX6_readWording 15 = .ok (.iload 5, 2) := by decide +kernel
theorem dX6_readWording_17 : decode cX6_readWording 17 = .ok (.ifCond .le 14, 3) := by decide +kernel
theorem dX6_readWording_20 : decode cX6_readWording 20 = .ok (.aload_n 0, 1) := by decide +kernel
theorem dX6_readWording_21 : decode cX6_readWording 21 = .ok (.invokevirtual 62, 3) := by decide +kernel
theorem dX6_readWording_24 : decode cX6_readWording 24 = .ok (.iconst 2, 1) := by decide +kernel
theorem dX6_readWording_25 : decode cX6_readWording 25 = .ok (.if_icmp .eq 6, 3) := by decide +kernel
theorem dX6_readWording_28 : decode cX6_readWording 28 = .ok (.goto 73, 3) := by decide +kernel
theorem dX6_readWording_31 : decode cX6_readWording 31 = .ok (.aload_n 0, 1) := by decide +kernel
theorem dX6_readWording_32 : decode cX6_readWording 32 = .ok (.getfield 82, 3) := by decide +kernel
theorem dX6_readWording_35 : decode cX6_readWording 35 = .ok (.istore 6, 2) := by decide +kernel
theorem dX6_readWording_37 : decode cX6_readWording 37 = .ok (.aload_n 0, 1) := by decide +kernel
theorem dX6_readWording_38 : decode cX6_readWording 38 = .ok (.iconst 0, 1) := by decide +kernel
theorem dX6_readWording_39 : decode cX6_readWording 39 = .ok (.aload_n 1, 1) := by decide +kernel
theorem dX6_readWording_40 : decode cX6_readWording 40 = .ok (.getfield 168, 3) := by decide +kernel
theorem dX6_readWording_43 : decode cX6_readWording 43 = .ok (.iconst 1, 1) := by decide +kernel
theorem dX6_readWording_44 : decode cX6_readWording 44 = .ok (.isub, 1) := by decide +kernel
theorem dX6_readWording_45 : decode cX6_readWording 45 = .ok (.invokevirtual 171, 3) := by decide +kernel
theorem dX6_readWording_48 : decode cX6_readWording 48 = .ok (.ifCond .ne 5, 3) := by decide +kernel
theorem dX6_readWording_51 : decode cX6_readWording 51 = .ok (.iconst 0, 1) := by decide +kernel
theorem dX6_readWording_52 : decode cX6_readWording 52 = .ok (.ireturn, 1) := by decide +kernel
theorem dX6_readWording_53 : decode cX6_readWording 53 = .ok (.iload 5, 2) := by decide +kernel
theorem dX6_readWording_55 : decode cX6_readWording 55 = .ok (.bipush 6, 2) := by decide +kernel
theorem dX6_readWording_57 : decode cX6_readWording 57 = .ok (.if_icmp .ne 15, 3) := by decide +kernel
theorem dX6_readWording_60 : decode cX6_readWording 60 = .ok (.aload_n 0, 1) := by decide +kernel
theorem dX6_readWording_61 : decode cX6_readWording 61 = .ok (.iload 6, 2) := by decide +kernel
theorem dX6_readWording_63 : decode cX6_readWording 63 = .ok (.putfield 82, 3) := by decide +kernel
theorem dX6_readWording_66 : decode cX6_readWording 66 = .ok (.aload_n 0, 1) := by decide +kernel
theorem dX6_readWording_67 : decode cX6_readWording 67 = .ok (.iconst 3, 1) := by decide +kernel
theorem dX6_readWording_68 : decode cX6_readWording 68 = .ok (.invokevirtual 145, 3) := by decide +kernel
theorem dX6_readWording_71 : decode cX6_readWording 71 = .ok (.ireturn, 1) := by decide +kernel
theorem dX6_readWording_72 : decode cX6_readWording 72 = .ok (.iload_n 3, 1) := by decide +kernel
theorem dX6_readWording_73 : decode cX6_readWording 73 = .ok (.iconst 1, 1) := by decide +kernel
theorem dX6_readWording_74 : decode cX6_readWording 74 = .ok (.aload_n 0, 1) := by decide +kernel
theorem dX6_readWording_75 : decode cX6_readWording 75 = .ok (.getfield 148, 3) := by decide +kernel
theorem dX6_readWording_78 : decode cX6_readWording 78 = .ok (.ishl, 1) := by decide +kernel
theorem dX6_readWording_79 : decode cX6_readWording 79 = .ok (.ior, 1) := by decide +kernel
theorem dX6_readWording_80 : decode cX6_readWording 80 = .ok (.istore_n 3, 1) := by decide +kernel
theorem dX6_readWording_81 : decode cX6_readWording 81 = .ok (.iload 4, 2) := by decide +kernel
theorem dX6_readWording_83 : decode cX6_readWording 83 = .ok (.aload_n 1, 1) := by decide +kernel
theorem dX6_readWording_84 : decode cX6_readWording 84 = .ok (.getfield 175, 3) := by decide +kernel
theorem dX6_readWording_87 : decode cX6_readWording 87 = .ok (.aload_n 0, 1) := by decide +kernel
theorem dX6_readWording_88 : decode cX6_readWording 88 = .ok (.getfield 148, 3) := by decide +kernel
theorem dX6_readWording_91 : decode cX6_readWording 91 = .ok (.iaload, 1) := by decide +kernel
theorem dX6_readWording_92 : decode cX6_readWording 92 = .ok (.iadd, 1) := by decide +kernel
theorem dX6_readWording_93 : decode cX6_readWording 93 = .ok (.istore 4, 2) := by decide +kernel
theorem dX6_readWording_95 : decode cX6_readWording 95 = .ok (.iinc 5 1, 3) := by decide +kernel
theorem dX6_readWording_98 : decode cX6_readWording 98 = .ok (.goto (-90), 3) := by decide +kernel
theorem dX6_readWording_101 : decode cX6_readWording 101 = .ok (.aload_n 2, 1) := by decide +kernel
theorem dX6_readWording_102 : decode cX6_readWording 102 = .ok (.iload_n 3, 1) := by decide +kernel
theorem dX6_readWording_103 : decode cX6_readWording 103 = .ok (.iload 4, 2) := by decide +kernel
theorem dX6_readWording_105 : decode cX6_readWording 105 = .ok (.invokevirtual 178, 3) := by decide +kernel
theorem dX6_readWording_108 : decode cX6_readWording 108 = .ok (.ireturn, 1) := by decide +kernel
theorem dX6_readWalk_0 : decode cX6_readWalk 0 = .ok (.aload_n 0, 1) := by decide +kernel
theorem dX6_readWalk_1 : decode cX6_readWalk 1 = .ok (.bipush 116, 2) := by decide +kernel
theorem dX6_readWalk_3 : decode cX6_readWalk 3 = .ok (.aload_n 2, 1) := by decide +kernel
theorem dX6_readWalk_4 : decode cX6_readWalk 4 = .ok (.getfield 56, 3) := by decide +kernel
theorem dX6_readWalk_7 : decode cX6_readWalk 7 = .ok (.bipush 16, 2) := by decide +kernel
theorem dX6_readWalk_9 : decode cX6_readWalk 9 = .ok (.invokevirtual 151, 3) := by decide +kernel
theorem dX6_readWalk_12 : decode cX6_readWalk 12 = .ok (.ifCond .eq 14, 3) := by decide +kernel
theorem dX6_readWalk_15 : decode cX6_readWalk 15 = .ok (.aload_n 0, 1) := by decide +kernel
theorem dX6_readWalk_16 : decode cX6_readWalk 16 = .ok (.iconst 0, 1) := by decide +kernel
theorem dX6_readWalk_17 : decode cX6_readWalk 17 = .ok (.sipush 999, 3) := by decide +kernel
theorem dX6_readWalk_20 : decode cX6_readWalk 20 = .ok (.invokevirtual 171, 3) := by decide +kernel
theorem dX6_readWalk_23 : decode cX6_readWalk 23 = .ok (.ifCond .ne 5, 3) := by decide +kernel
theorem dX6_readWalk_26 : decode cX6_readWalk 26 = .ok (.iconst 0, 1) := by decide +kernel
theorem dX6_readWalk_27 : decode cX6_readWalk 27 = .ok (.ireturn, 1) := by decide +kernel
theorem dX6_readWalk_28 : decode cX6_readWalk 28 = .ok (.aload_n 0, 1) := by decide +kernel
theorem dX6_readWalk_29 : decode cX6_readWalk 29 = .ok (.getfield 148, 3) := by decide +kernel
theorem dX6_readWalk_32 : decode cX6_readWalk 32 = .ok (.istore_n 3, 1) := by decide +kernel
theorem dX6_readWalk_33 : decode cX6_readWalk 33 = .ok (.aload_n 0, 1) := by decide +kernel
theorem dX6_readWalk_34 : decode cX6_readWalk 34 = .ok (.iconst 0, 1) := by decide +kernel
theorem dX6_readWalk_35 : decode cX6_readWalk 35 = .ok (.aload_n 1, 1) := by decide +kernel
theorem dX6_readWalk_36 : decode cX6_readWalk 36 = .ok (.getfield 181, 3) := by decide +kernel
theorem dX6_readWalk_39 : decode cX6_readWalk 39 = .ok (.iconst 1, 1) := by decide +kernel
theorem dX6_readWalk_40 : decode cX6_readWalk 40 = .ok (.isub, 1) := by decide +kernel
theorem dX6_readWalk_41 : decode cX6_readWalk 41 = .ok (.invokevirtual 171, 3) := by decide +kernel
theorem dX6_readWalk_44 : decode cX6_readWalk 44 = .ok (.ifCond .ne 5, 3) := by decide +kernel
theorem dX6_readWalk_47 : decode cX6_readWalk 47 = .ok (.iconst 0, 1) := by decide +kernel
theorem dX6_readWalk_48 : decode cX6_readWalk 48 = .ok (.ireturn, 1) := by decide +kernel
theorem dX6_readWalk_49 : decode cX6_readWalk 49 = .ok (.aload_n 0, 1) := by decide +kernel
theorem dX6_readWalk_50 : decode cX6_readWalk 50 = .ok (.getfield 148, 3) := by decide +kernel
theorem dX6_readWalk_53 : decode cX6_readWalk 53 = .ok (.istore 4, 2) := by decide +kernel
theorem dX6_readWalk_55 : decode cX6_readWalk 55 = .ok (.aload_n 0, 1) := by decide +kernel
theorem dX6_readWalk_56 : decode cX6_readWalk 56 = .ok (.invokevirtual 62, 3) := by decide +kernel
theorem dX6_readWalk_59 : decode cX6_readWalk 59 = .ok (.istore 5, 2) := by decide +kernel
theorem dX6_readWalk_61 : decode cX6_readWalk 61 = .ok (.iload 5, 2) := by decide +kernel
theorem dX6_readWalk_63 : decode cX6_readWalk 63 = .ok (.bipush 117, 2) := by decide +kernel
theorem dX6_readWalk_65 : decode cX6_readWalk 65 = .ok (.if_icmp .eq 23, 3) := by decide +kernel
theorem dX6_readWalk_68 : decode cX6_readWalk 68 = .ok (.iload 5, 2) := by decide +kernel
theorem dX6_readWalk_70 : decode cX6_readWalk 70 = .ok (.bipush 118, 2) := by decide +kernel
theorem dX6_readWalk_72 : decode cX6_readWalk 72 = .ok (.if_icmp .eq 16, 3) := by decide +kernel
theorem dX6_readWalk_75 : decode cX6_readWalk 75 = .ok (.iload 5, 2) := by decide +kernel
theorem dX6_readWalk_77 : decode cX6_readWalk 77 = .ok (.bipush 119, 2) := by decide +kernel
theorem dX6_readWalk_79 : decode cX6_readWalk 79 = .ok (.if_icmp .eq 9, 3) := by decide +kernel
theorem dX6_readWalk_82 : decode cX6_readWalk 82 = .ok (.aload_n 0, 1) := by decide +kernel
theorem dX6_readWalk_83 : decode cX6_readWalk 83 = .ok (.iconst 1, 1) := by decide +kernel
theorem dX6_readWalk_84 : decode cX6_readWalk 84 = .ok (.invokevirtual 145, 3) := by decide +kernel
theorem dX6_readWalk_87 : decode cX6_readWalk 87 = .ok (.ireturn, 1) := by decide +kernel
theorem dX6_readWalk_88 : decode cX6_readWalk 88 = .ok (.aload_n 0, 1) := by decide +kernel
theorem dX6_readWalk_89 : decode cX6_readWalk 89 = .ok (.dup, 1) := by decide +kernel
theorem dX6_readWalk_90 : decode cX6_readWalk 90 = .ok (.getfield 82, 3) := by decide +kernel
theorem dX6_readWalk_93 : decode cX6_readWalk 93 = .ok (.iconst 1, 1) := by decide +kernel
theorem dX6_readWalk_94 : decode cX6_readWalk 94 = .ok (.iadd, 1) := by decide +kernel
theorem dX6_readWalk_95 : decode cX6_readWalk 95 = .ok (.putfield 82, 3) := by decide +kernel
theorem dX6_readWalk_98 : decode cX6_readWalk 98 = .ok (.aload_n 0, 1) := by decide +kernel
theorem dX6_readWalk_99 : decode cX6_readWalk 99 = .ok (.iconst (-1), 1) := by decide +kernel
theorem dX6_readWalk_100 : decode cX6_readWalk 100 = .ok (.putfield 148, 3) := by decide +kernel
theorem dX6_readWalk_103 : decode cX6_readWalk 103 = .ok (.iload 5, 2) := by decide +kernel
theorem dX6_readWalk_105 : decode cX6_readWalk 105 = .ok (.bipush 119, 2) := by decide +kernel
theorem dX6_readWalk_107 : decode cX6_readWalk 107 = .ok (.if_icmp .eq 31, 3) := by decide +kernel
theorem dX6_readWalk_110 : decode cX6_readWalk 110 = .ok (.aload_n 0, 1) := by decide +kernel
theorem dX6_readWalk_111 : decode cX6_readWalk 111 = .ok (.iconst 0, 1) := by decide +kernel
theorem dX6_readWalk_112 : decode cX6_readWalk 112 = .ok (.iload 5, 2) := by decide +kernel
theorem dX6_readWalk_114 : decode cX6_readWalk 114 = .ok (.bipush 117, 2) := by decide +kernel
theorem dX6_readWalk_116 : decode cX6_readWalk 116 = .ok (.if_icmp .ne 8, 3) := by decide +kernel
theorem dX6_readWalk_119 : decode cX6_readWalk 119 = .ok (.bipush 9, 2) := by decide +kernel
theorem dX6_readWalk_121 : decode cX6_readWalk 121 = .ok (.goto 9, 3) := by decide +kernel
theorem dX6_readWalk_124 : decode cX6_readWalk 124 = .ok (.aload_n 1, 1) := by decide +kernel
theorem dX6_readWalk_125 : decode cX6_readWalk 125 = .ok (.getfield 168, 3) := by decide +kernel
theorem dX6_readWalk_128 : decode cX6_readWalk 128 = .ok (.iconst 1, 1) := by decide +kernel
theorem dX6_readWalk_129 : decode cX6_readWalk 129 = .ok (.isub, 1) := by decide +kernel
theorem dX6_readWalk_130 : decode cX6_readWalk 130 = .ok (.invokevirtual 171, 3) := by decide +kernel
theorem dX6_readWalk_133 : decode cX6_readWalk 133 = .ok (.ifCond .ne 5, 3) := by decide +kernel
theorem dX6_readWalk_136 : decode cX6_readWalk 136 = .ok (.iconst 0, 1) := by decide +kernel
theorem dX6_readWalk_137 : decode cX6_readWalk 137 = .ok (.ireturn, 1) := by decide +kernel
theorem dX6_readWalk_138 : decode cX6_readWalk 138 = .ok (.aload_n 2, 1) := by decide +kernel
theorem dX6_readWalk_139 : decode cX6_readWalk 139 = .ok (.iload_n 3, 1) := by decide +kernel
theorem dX6_readWalk_140 : decode cX6_readWalk 140 = .ok (.iload 4, 2) := by decide +kernel
theorem dX6_readWalk_142 : decode cX6_readWalk 142 = .ok (.iload 5, 2) := by decide +kernel
theorem dX6_readWalk_144 : decode cX6_readWalk 144 = .ok (.aload_n 0, 1) := by decide +kernel
theorem dX6_readWalk_145 : decode cX6_readWalk 145 = .ok (.getfield 148, 3) := by decide +kernel
theorem dX6_readWalk_148 : decode cX6_readWalk 148 = .ok (.invokevirtual 184, 3) := by decide +kernel
theorem dX6_readWalk_151 : decode cX6_readWalk 151 = .ok (.aload_n 0, 1) := by decide +kernel
theorem dX6_readWalk_152 : decode cX6_readWalk 152 = .ok (.bipush 59, 2) := by decide +kernel
theorem dX6_readWalk_154 : decode cX6_readWalk 154 = .ok (.invokevirtual 161, 3) := by decide +kernel
theorem dX6_readWalk_157 : decode cX6_readWalk 157 = .ok (.ireturn, 1) := by decide +kernel
theorem dX6_readNeed_0 : decode cX6_readNeed 0 = .ok (.aload_n 0, 1) := by decide +kernel
theorem dX6_readNeed_1 : decode cX6_readNeed 1 = .ok (.bipush 120, 2) := by decide +kernel
theorem dX6_readNeed_3 : decode cX6_readNeed 3 = .ok (.aload_n 2, 1) := by decide +kernel
theorem dX6_readNeed_4 : decode cX6_readNeed 4 = .ok (.getfield 56, 3) := by decide +kernel
theorem dX6_readNeed_7 : decode cX6_readNeed 7 = .ok (.bipush 12, 2) := by decide +kernel
theorem dX6_readNeed_9 : decode cX6_readNeed 9 = .ok (.invokevirtual 151, 3) := by decide +kernel
theorem dX6_readNeed_12 : decode cX6_readNeed 12 = .ok (.ifCond .eq 20, 3) := by decide +kernel
theorem dX6_readNeed_15 : decode cX6_readNeed 15 = .ok (.aload_n 0, 1) := by decide +kernel
theorem dX6_readNeed_16 : decode cX6_readNeed 16 = .ok (.iconst 0, 1) := by decide +kernel
theorem dX6_readNeed_17 : decode cX6_readNeed 17 = .ok (.aload_n 1, 1) := by decide +kernel
theorem dX6_readNeed_18 : decode cX6_readNeed 18 = .ok (.getfield 32, 3) := by decide +kernel
theorem dX6_readNeed_21 : decode cX6_readNeed 21 = .ok (.getfield 38, 3) := by decide +kernel
theorem dX6_readNeed_24 : decode cX6_readNeed 24 = .ok (.iconst 1, 1) := by decide +kernel
theorem dX6_readNeed_25 : decode cX6_readNeed 25 = .ok (.isub, 1) := by decide +kernel
theorem dX6_readNeed_26 : decode cX6_readNeed 26 = .ok (.invokevirtual 171, 3) := by decide +kernel
theorem dX6_readNeed_29 : decode cX6_readNeed 29 = .ok (.ifCond .ne 5, 3) := by decide +kernel
theorem dX6_readNeed_32 : decode cX6_readNeed 32 = .ok (.iconst 0, 1) := by decide +kernel
theorem dX6_readNeed_33 : decode cX6_readNeed 33 = .ok (.ireturn, 1) := by decide +kernel
theorem dX6_readNeed_34 : decode cX6_readNeed 34 = .ok (.aload_n 0, 1) := by decide +kernel
theorem dX6_readNeed_35 : decode cX6_readNeed 35 = .ok (.getfield 148, 3) := by decide +kernel
theorem dX6_readNeed_38 : decode cX6_readNeed 38 = .ok (.istore_n 3, 1) := by decide +kernel
theorem dX6_readNeed_39 : decode cX6_readNeed 39 = .ok (.aload_n 0, 1) := by decide +kernel
theorem dX6_readNeed_40 : decode cX6_readNeed 40 = .ok (.bipush 121, 2) := by decide +kernel
theorem dX6_readNeed_42 : decode cX6_readNeed 42 = .ok (.invokevirtual 161, 3) := by decide +kernel
theorem dX6_readNeed_45 : decode cX6_readNeed 45 = .ok (.ifCond .eq 14, 3) := by decide +kernel
theorem dX6_readNeed_48 : decode cX6_readNeed 48 = .ok (.aload_n 0, 1) := by decide +kernel
theorem dX6_readNeed_49 : decode cX6_readNeed 49 = .ok (.iconst 0, 1) := by decide +kernel
theorem dX6_readNeed_50 : decode cX6_readNeed 50 = .ok (.sipush 999, 3) := by decide +kernel
theorem dX6_readNeed_53 : decode cX6_readNeed 53 = .ok (.invokevirtual 171, 3) := by decide +kernel
theorem dX6_readNeed_56 : decode cX6_readNeed 56 = .ok (.ifCond .ne 5, 3) := by decide +kernel
theorem dX6_readNeed_59 : decode cX6_readNeed 59 = .ok (.iconst 0, 1) := by decide +kernel
theorem dX6_readNeed_60 : decode cX6_readNeed 60 = .ok (.ireturn, 1) := by decide +kernel
theorem dX6_readNeed_61 : decode cX6_readNeed 61 = .ok (.aload_n 0, 1) := by decide +kernel
theorem dX6_readNeed_62 : decode cX6_readNeed 62 = .ok (.getfield 148, 3) := by decide +kernel
theorem dX6_readNeed_65 : decode cX6_readNeed 65 = .ok (.istore 4, 2) := by decide +kernel
theorem dX6_readNeed_67 : decode cX6_readNeed 67 = .ok (.aload_n 0, 1) := by decide +kernel
theorem dX6_readNeed_68 : decode cX6_readNeed 68 = .ok (.bipush 122, 2) := by decide +kernel
theorem dX6_readNeed_70 : decode cX6_readNeed 70 = .ok (.invokevirtual 161, 3) := by decide +kernel
theorem dX6_readNeed_73 : decode cX6_readNeed 73 = .ok (.ifCond .eq 13, 3) := by decide +kernel
theorem dX6_readNeed_76 : decode cX6_readNeed 76 = .ok (.aload_n 0, 1) := by decide +kernel
theorem dX6_readNeed_77 : decode cX6_readNeed 77 = .ok (.iconst 1, 1) := by decide +kernel
theorem dX6_readNeed_78 : decode cX6_readNeed 78 = .ok (.bipush 99, 2) := by decide +kernel
theorem dX6_readNeed_80 : decode cX6_readNeed 80 = .ok (.invokevirtual 171, 3) := by decide +kernel
theorem dX6_readNeed_83 : decode cX6_readNeed 83 = .ok (.ifCond .ne 5, 3) := by decide +kernel
theorem dX6_readNeed_86 : decode cX6_readNeed 86 = .ok (.iconst 0, 1) := by decide +kernel
theorem dX6_readNeed_87 : decode cX6_readNeed 87 = .ok (.ireturn, 1) := by decide +kernel
theorem dX6_readNeed_88 : decode cX6_readNeed 88 = .ok (.aload_n 2, 1) := by decide +kernel
theorem dX6_readNeed_89 : decode cX6_readNeed 89 = .ok (.iload_n 3, 1) := by decide +kernel
theorem dX6_readNeed_90 : decode cX6_readNeed 90 = .ok (.iload 4, 2) := by decide +kernel
theorem dX6_readNeed_92 : decode cX6_readNeed 92 = .ok (.aload_n 0, 1) := by decide +kernel
theorem dX6_readNeed_93 : decode cX6_readNeed 93 = .ok (.getfield 148, 3) := by decide +kernel
theorem dX6_readNeed_96 : decode cX6_readNeed 96 = .ok (.iconst 0, 1) := by decide +kernel
theorem dX6_readNeed_97 : decode cX6_readNeed 97 = .ok (.invokevirtual 184, 3) := by decide +kernel
theorem dX6_readNeed_100 : decode cX6_readNeed 100 = .ok (.aload_n 0, 1) := by decide +kernel
theorem dX6_readNeed_101 : decode cX6_readNeed 101 = .ok (.bipush 59, 2) := by decide +kernel
theorem dX6_readNeed_103 : decode cX6_readNeed 103 = .ok (.invokevirtual 161, 3) := by decide +kernel
theorem dX6_readNeed_106 : decode cX6_readNeed 106 = .ok (.ireturn, 1) := by decide +kernel
theorem dX6_readLaw_0 : decode cX6_readLaw 0 = .ok (.aload_n 0, 1) := by decide +kernel
theorem dX6_readLaw_1 : decode cX6_readLaw 1 = .ok (.invokevirtual 62, 3) := by decide +kernel
theorem dX6_readLaw_4 : decode cX6_readLaw 4 = .ok (.istore_n 2, 1) := by decide +kernel
theorem dX6_readLaw_5 : decode cX6_readLaw 5 = .ok (.iload_n 2, 1) := by decide +kernel
theorem dX6_readLaw_6 : decode cX6_readLaw 6 = .ok (.bipush 104, 2) := by decide +kernel
theorem dX6_readLaw_8 : decode cX6_readLaw 8 = .ok (.if_icmp .eq 21, 3) := by decide +kernel
theorem dX6_readLaw_11 : decode cX6_readLaw 11 = .ok (.iload_n 2, 1) := by decide +kernel
theorem dX6_readLaw_12 : decode cX6_readLaw 12 = .ok (.bipush 105, 2) := by decide +kernel
theorem dX6_readLaw_14 : decode cX6_readLaw 14 = .ok (.if_icmp .eq 15, 3) := by decide +kernel
theorem dX6_readLaw_17 : decode cX6_readLaw 17 = .ok (.iload_n 2, 1) := by decide +kernel
theorem dX6_readLaw_18 : decode cX6_readLaw 18 = .ok (.bipush 106, 2) := by decide +kernel
theorem dX6_readLaw_20 : decode cX6_readLaw 20 = .ok (.if_icmp .eq 9, 3) := by decide +kernel
theorem dX6_readLaw_23 : decode cX6_readLaw 23 = .ok (.aload_n 0, 1) := by decide +kernel
theorem dX6_readLaw_24 : decode cX6_readLaw 24 = .ok (.iconst 1, 1) := by decide +kernel
theorem dX6_readLaw_25 : decode cX6_readLaw 25 = .ok (.invokevirtual 145, 3) := by decide +kernel
theorem dX6_readLaw_28 : decode cX6_readLaw 28 = .ok (.ireturn, 1) := by decide +kernel
theorem dX6_readLaw_29 : decode cX6_readLaw 29 = .ok (.aload_n 0, 1) := by decide +kernel
theorem dX6_readLaw_30 : decode cX6_readLaw 30 = .ok (.iload_n 2, 1) := by decide +kernel
theorem dX6_readLaw_31 : decode cX6_readLaw 31 = .ok (.aload_n 1, 1) := by decide +kernel
theorem dX6_readLaw_32 : decode cX6_readLaw 32 = .ok (.getfield 188, 3) := by decide +kernel
theorem dX6_readLaw_35 : decode cX6_readLaw 35 = .ok (.bipush 16, 2) := by decide +kernel
theorem dX6_readLaw_37 : decode cX6_readLaw 37 = .ok (.invokevirtual 151, 3) := by decide +kernel
theorem dX6_readLaw_40 : decode cX6_readLaw 40 = .ok (.ifCond .ne 5, 3) := by decide +kernel
theorem dX6_readLaw_43 : decode cX6_readLaw 43 = .ok (.iconst 0, 1) := by decide +kernel
theorem dX6_readLaw_44 : decode cX6_readLaw 44 = .ok (.ireturn, 1) := by decide +kernel
theorem dX6_readLaw_45 : decode cX6_readLaw 45 = .ok (.aload_n 1, 1) := by decide +kernel
theorem dX6_readLaw_46 : decode cX6_readLaw 46 = .ok (.iload_n 2, 1) := by decide +kernel
theorem dX6_readLaw_47 : decode cX6_readLaw 47 = .ok (.invokevirtual 189, 3) := by decide +kernel
theorem dX6_readLaw_50 : decode cX6_readLaw 50 = .ok (.aload_n 0, 1) := by decide +kernel
theorem dX6_readLaw_51 : decode cX6_readLaw 51 = .ok (.aload_n 1, 1) := by decide +kernel
theorem dX6_readLaw_52 : decode cX6_readLaw 52 = .ok (.invokevirtual 192, 3) := by decide +kernel
theorem dX6_readLaw_55 : decode cX6_readLaw 55 = .ok (.ifCond .ne 5, 3) := by decide +kernel
theorem dX6_readLaw_58 : decode cX6_readLaw 58 = .ok (.iconst 0, 1) := by decide +kernel
theorem dX6_readLaw_59 : decode cX6_readLaw 59 = .ok (.ireturn, 1) := by decide +kernel
theorem dX6_readLaw_60 : decode cX6_readLaw 60 = .ok (.aload_n 1, 1) := by decide +kernel
theorem dX6_readLaw_61 : decode cX6_readLaw 61 = .ok (.invokevirtual 195, 3) := by decide +kernel
theorem dX6_readLaw_64 : decode cX6_readLaw 64 = .ok (.aload_n 0, 1) := by decide +kernel
theorem dX6_readLaw_65 : decode cX6_readLaw 65 = .ok (.invokevirtual 62, 3) := by decide +kernel
theorem dX6_readLaw_68 : decode cX6_readLaw 68 = .ok (.bipush 107, 2) := by decide +kernel
theorem dX6_readLaw_70 : decode cX6_readLaw 70 = .ok (.if_icmp .ne 24, 3) := by decide +kernel
theorem dX6_readLaw_73 : decode cX6_readLaw 73 = .ok (.aload_n 0, 1) := by decide +kernel
theorem dX6_readLaw_74 : decode cX6_readLaw 74 = .ok (.dup, 1) := by decide +kernel
theorem dX6_readLaw_75 : decode cX6_readLaw 75 = .ok (.getfield 82, 3) := by decide +kernel
theorem dX6_readLaw_78 : decode cX6_readLaw 78 = .ok (.iconst 1, 1) := by decide +kernel
theorem dX6_readLaw_79 : decode cX6_readLaw 79 = .ok (.iadd, 1) := by decide +kernel
theorem dX6_readLaw_80 : decode cX6_readLaw 80 = .ok (.putfield 82, 3) := by decide +kernel
theorem dX6_readLaw_83 : decode cX6_readLaw 83 = .ok (.aload_n 0, 1) := by decide +kernel
theorem dX6_readLaw_84 : decode cX6_readLaw 84 = .ok (.aload_n 1, 1) := by decide +kernel
theorem dX6_readLaw_85 : decode cX6_readLaw 85 = .ok (.iconst 0, 1) := by decide +kernel
theorem dX6_readLaw_86 : decode cX6_readLaw 86 = .ok (.invokevirtual 198, 3) := by decide +kernel
theorem dX6_readLaw_89 : decode cX6_readLaw 89 = .ok (.ifCond .ne 5, 3) := by decide +kernel
theorem dX6_readLaw_92 : decode cX6_readLaw 92 = .ok (.iconst 0, 1) := by decide +kernel
theorem dX6_readLaw_93 : decode cX6_readLaw 93 = .ok (.ireturn, 1) := by decide +kernel
theorem dX6_readLaw_94 : decode cX6_readLaw 94 = .ok (.aload_n 1, 1) := by decide +kernel
theorem dX6_readLaw_95 : decode cX6_readLaw 95 = .ok (.invokevirtual 202, 3) := by decide +kernel
theorem dX6_readLaw_98 : decode cX6_readLaw 98 = .ok (.aload_n 0, 1) := by decide +kernel
theorem dX6_readLaw_99 : decode cX6_readLaw 99 = .ok (.bipush 59, 2) := by decide +kernel
theorem dX6_readLaw_101 : decode cX6_readLaw 101 = .ok (.invokevirtual 161, 3) := by decide +kernel
theorem dX6_readLaw_104 : decode cX6_readLaw 104 = .ok (.ireturn, 1) := by decide +kernel
theorem dX6_readEither_0 : decode cX6_readEither 0 = .ok (.iconst 0, 1) := by decide +kernel
theorem dX6_readEither_1 : decode cX6_readEither 1 = .ok (.istore_n 3, 1) := by decide +kernel
theorem dX6_readEither_2 : decode cX6_readEither 2 = .ok (.iload_n 3, 1) := by decide +kernel
theorem dX6_readEither_3 : decode cX6_readEither 3 = .ok (.sipush 400, 3) := by decide +kernel
theorem dX6_readEither_6 : decode cX6_readEither 6 = .ok (.if_icmp .gt 106, 3) := by decide +kernel
theorem dX6_readEither_9 : decode cX6_readEither 9 = .ok (.aload_n 0, 1) := by decide +kernel
theorem dX6_readEither_10 : decode cX6_readEither 10 = .ok (.aload_n 1, 1) := by decide +kernel
theorem dX6_readEither_11 : decode cX6_readEither 11 = .ok (.iload_n 2, 1) := by decide +kernel
theorem dX6_readEither_12 : decode cX6_readEither 12 = .ok (.invokevirtual 205, 3) := by decide +kernel
theorem dX6_readEither_15 : decode cX6_readEither 15 = .ok (.ifCond .ne 5, 3) := by decide +kernel
theorem dX6_readEither_18 : decode cX6_readEither 18 = .ok (.iconst 0, 1) := by decide +kernel
theorem dX6_readEither_19 : decode cX6_readEither 19 = .ok (.ireturn, 1) := by decide +kernel
theorem dX6_readEither_20 : decode cX6_readEither 20 = .ok (.iconst 0, 1) := by decide +kernel
theorem dX6_readEither_21 : decode cX6_readEither 21 = .ok (.istore 4, 2) := by decide +kernel
theorem dX6_readEither_23 : decode cX6_readEither 23 = .ok (.iload 4, 2) := by decide +kernel
theorem dX6_readEither_25 : decode cX6_readEither 25 = .ok (.sipush 400, 3) := by decide +kernel
theorem dX6_readEither_28 : decode cX6_readEither 28 = .ok (.if_icmp .gt 46, 3) := by decide +kernel
theorem dX6_readEither_31 : decode cX6_readEither 31 = .ok (.aload_n 0, 1) := by decide +kernel
theorem dX6_readEither_32 : decode cX6_readEither 32 = .ok (.invokevirtual 62, 3) := by decide +kernel
theorem dX6_readEither_35 : decode cX6_readEither 35 = .ok (.bipush 102, 2) := by decide +kernel
theorem dX6_readEither_37 : decode cX6_readEither 37 = .ok (.if_icmp .ne 37, 3) := by decide +kernel
theorem dX6_readEither_40 : decode cX6_readEither 40 = .ok (.aload_n 0, 1) := by decide +kernel
theorem dX6_readEither_41 : decode cX6_readEither 41 = .ok (.dup, 1) := by decide +kernel
theorem dX6_readEither_42 : decode cX6_readEither 42 = .ok (.getfield 82, 3) := by decide +kernel
theorem dX6_readEither_45 : decode cX6_readEither 45 = .ok (.iconst 1, 1) := by decide +kernel
theorem dX6_readEither_46 : decode cX6_readEither 46 = .ok (.iadd, 1) := by decide +kernel
theorem dX6_readEither_47 : decode cX6_readEither 47 = .ok (.putfield 82, 3) := by decide +kernel
theorem dX6_readEither_50 : decode cX6_readEither 50 = .ok (.aload_n 0, 1) := by decide +kernel
theorem dX6_readEither_51 : decode cX6_readEither 51 = .ok (.aload_n 1, 1) := by decide +kernel
theorem dX6_readEither_52 : decode cX6_readEither 52 = .ok (.iload_n 2, 1) := by decide +kernel
theorem dX6_readEither_53 : decode cX6_readEither 53 = .ok (.invokevirtual 205, 3) := by decide +kernel
theorem dX6_readEither_56 : decode cX6_readEither 56 = .ok (.ifCond .ne 5, 3) := by decide +kernel
theorem dX6_readEither_59 : decode cX6_readEither 59 = .ok (.iconst 0, 1) := by decide +kernel
theorem dX6_readEither_60 : decode cX6_readEither 60 = .ok (.ireturn, 1) := by decide +kernel
theorem dX6_readEither_61 : decode cX6_readEither 61 = .ok (.aload_n 1, 1) := by decide +kernel
theorem dX6_readEither_62 : decode cX6_readEither 62 = .ok (.sipush 20102, 3) := by decide +kernel
theorem dX6_readEither_65 : decode cX6_readEither 65 = .ok (.invokevirtual 208, 3) := by decide +kernel
theorem dX6_readEither_68 : decode cX6_readEither 68 = .ok (.iinc 4 1, 3) := by decide +kernel
theorem dX6_readEither_71 : decode cX6_readEither 71 = .ok (.goto (-48), 3) := by decide +kernel
theorem dX6_readEither_74 : decode cX6_readEither 74 = .ok (.iload_n 3, 1) := by decide +kernel
theorem dX6_readEither_75 : decode cX6_readEither 75 = .ok (.ifCond .le 10, 3) := by decide +kernel
theorem dX6_readEither_78 : decode cX6_readEither 78 = .ok (.aload_n 1, 1) := by decide +kernel
theorem dX6_readEither_79 : decode cX6_readEither 79 = .ok (.sipush 20101, 3) := by decide +kernel
theorem dX6_readEither_82 : decode cX6_readEither 82 = .ok (.invokevirtual 208, 3) := by decide +kernel
theorem dX6_readEither_85 : decode cX6_readEither 85 = .ok (.aload_n 0, 1) := by decide +kernel
theorem dX6_readEither_86 : decode cX6_readEither 86 = .ok (.invokevirtual 62, 3) := by decide +kernel
theorem dX6_readEither_89 : decode cX6_readEither 89 = .ok (.bipush 101, 2) := by decide +kernel
theorem dX6_readEither_91 : decode cX6_readEither 91 = .ok (.if_icmp .eq 5, 3) := by decide +kernel
theorem dX6_readEither_94 : decode cX6_readEither 94 = .ok (.iconst 1, 1) := by decide +kernel
theorem dX6_readEither_95 : decode cX6_readEither 95 = .ok (.ireturn, 1) := by decide +kernel
theorem dX6_readEither_96 : decode cX6_readEither 96 = .ok (.aload_n 0, 1) := by decide +kernel
theorem dX6_readEither_97 : decode cX6_readEither 97 = .ok (.dup, 1) := by decide +kernel
theorem dX6_readEither_98 : decode cX6_readEither 98 = .ok (.getfield 82, 3) := by decide +kernel
theorem dX6_readEither_101 : decode cX6_readEither 101 = .ok (.iconst 1, 1) := by decide +kernel
theorem dX6_readEither_102 : decode cX6_readEither 102 = .ok (.iadd, 1) := by decide +kernel
theorem dX6_readEither_103 : decode cX6_readEither 103 = .ok (.putfield 82, 3) := by decide +kernel
theorem dX6_readEither_106 : decode cX6_readEither 106 = .ok (.iinc 3 1, 3) := by decide +kernel
theorem dX6_readEither_109 : decode cX6_readEither 109 = .ok (.goto (-107), 3) := by decide +kernel
theorem dX6_readEither_112 : decode cX6_readEither 112 = .ok (.iconst 0, 1) := by decide +kernel
theorem dX6_readEither_113 : decode cX6_readEither 113 = .ok (.ireturn, 1) := by decide +kernel
theorem dX6_readCondition_0 : decode cX6_readCondition 0 = .ok (.aload_n 0, 1) := by decide +kernel
theorem dX6_readCondition_1 : decode cX6_readCondition 1 = .ok (.invokevirtual 62, 3) := by decide +kernel
theorem dX6_readCondition_4 : decode cX6_readCondition 4 = .ok (.istore_n 3, 1) := by decide +kernel
theorem dX6_readCondition_5 : decode cX6_readCondition 5 = .ok (.iload_n 3, 1) := by decide +kernel
theorem dX6_readCondition_6 : decode cX6_readCondition 6 = .ok (.bipush 103, 2) := by decide +kernel
theorem dX6_readCondition_8 : decode cX6_readCondition 8 = .ok (.if_icmp .eq 9, 3) := by decide +kernel
theorem dX6_readCondition_11 : decode cX6_readCondition 11 = .ok (.iload_n 3, 1) := by decide +kernel
theorem dX6_readCondition_12 : decode cX6_readCondition 12 = .ok (.bipush 40, 2) := by decide +kernel
theorem dX6_readCondition_14 : decode cX6_readCondition 14 = .ok (.if_icmp .ne 79, 3) := by decide +kernel
theorem dX6_readCondition_17 : decode cX6_readCondition 17 = .ok (.iload_n 2, 1) := by decide +kernel
theorem dX6_readCondition_18 : decode cX6_readCondition 18 = .ok (.bipush 8, 2) := by decide +kernel
theorem dX6_readCondition_20 : decode cX6_readCondition 20 = .ok (.if_icmp .lt 9, 3) := by decide +kernel
theorem dX6_readCondition_23 : decode cX6_readCondition 23 = .ok (.aload_n 0, 1) := by decide +kernel
theorem dX6_readCondition_24 : decode cX6_readCondition 24 = .ok (.iconst 3, 1) := by decide +kernel
theorem dX6_readCondition_25 : decode cX6_readCondition 25 = .ok (.invokevirtual 145, 3) := by decide +kernel
theorem dX6_readCondition_28 : decode cX6_readCondition 28 = .ok (.ireturn, 1) := by decide +kernel
theorem dX6_readCondition_29 : decode cX6_readCondition 29 = .ok (.aload_n 0, 1) := by decide +kernel
theorem dX6_readCondition_30 : decode cX6_readCondition 30 = .ok (.dup, 1) := by decide +kernel
theorem dX6_readCondition_31 : decode cX6_readCondition 31 = .ok (.getfield 82, 3) := by decide +kernel
theorem dX6_readCondition_34 : decode cX6_readCondition 34 = .ok (.iconst 1, 1) := by decide +kernel
theorem dX6_readCondition_35 : decode cX6_readCondition 35 = .ok (.iadd, 1) := by decide +kernel
theorem dX6_readCondition_36 : decode cX6_readCondition 36 = .ok (.putfield 82, 3) := by decide +kernel
theorem dX6_readCondition_39 : decode cX6_readCondition 39 = .ok (.iload_n 3, 1) := by decide +kernel
theorem dX6_readCondition_40 : decode cX6_readCondition 40 = .ok (.bipush 40, 2) := by decide +kernel
theorem dX6_readCondition_42 : decode cX6_readCondition 42 = .ok (.if_icmp .ne 29, 3) := by decide +kernel
theorem dX6_readCondition_45 : decode cX6_readCondition 45 = .ok (.aload_n 0, 1) := by decide +kernel
theorem dX6_readCondition_46 : decode cX6_readCondition 46 = .ok (.aload_n 1, 1) := by decide +kernel
theorem dX6_readCondition_47 : decode cX6_readCondition 47 = .ok (.iload_n 2, 1) := by decide +kernel
theorem dX6_readCondition_48 : decode cX6_readCondition 48 = .ok (.iconst 1, 1) := by decide +kernel
theorem dX6_readCondition_49 : decode cX6_readCondition 49 = .ok (.iadd, 1) := by decide +kernel
theorem dX6_readCondition_50 : decode cX6_readCondition 50 = .ok (.invokevirtual 198, 3) := by decide +kernel
theorem dX6_readCondition_53 : decode cX6_readCondition 53 = .ok (.ifCond .eq 16, 3) := by decide +kernel
theorem dX6_readCondition_56 : decode cX6_readCondition 56 = .ok (.aload_n 0, 1) := by decide +kernel
theorem dX6_readCondition_57 : decode cX6_readCondition 57 = .ok (.bipush 41, 2) := by decide +kernel
theorem dX6_readCondition_59 : decode cX6_readCondition 59 = .ok (.invokevirtual 161, 3) := by decide +kernel
theorem dX6_readCondition_62 : decode cX6_readCondition 62 = .ok (.ifCond .eq 7, 3) := by decide +kernel
theorem dX6_readCondition_65 : decode cX6_readCondition 65 = .ok (.iconst 1, 1) := by decide +kernel
theorem dX6_readCondition_66 : decode cX6_readCondition 66 = .ok (.goto 4, 3) := by decide +kernel
theorem dX6_readCondition_69 : decode cX6_readCondition 69 = .ok (.iconst 0, 1) := by decide +kernel
theorem dX6_readCondition_70 : decode cX6_readCondition 70 = .ok (.ireturn, 1) := by decide +kernel
theorem dX6_readCondition_71 : decode cX6_readCondition 71 = .ok (.aload_n 0, 1) := by decide +kernel
theorem dX6_readCondition_72 : decode cX6_readCondition 72 = .ok (.aload_n 1, 1) := by decide +kernel
theorem dX6_readCondition_73 : decode cX6_readCondition 73 = .ok (.iload_n 2, 1) := by decide +kernel
theorem dX6_readCondition_74 : decode cX6_readCondition 74 = .ok (.iconst 1, 1) := by decide +kernel
theorem dX6_readCondition_75 : decode cX6_readCondition 75 = .ok (.iadd, 1) := by decide +kernel
theorem dX6_readCondition_76 : decode cX6_readCondition 76 = .ok (.invokevirtual 205, 3) := by decide +kernel
theorem dX6_readCondition_79 : decode cX6_readCondition 79 = .ok (.ifCond .ne 5, 3) := by decide +kernel
theorem dX6_readCondition_82 : decode cX6_readCondition 82 = .ok (.iconst 0, 1) := by decide +kernel
theorem dX6_readCondition_83 : decode cX6_readCondition 83 = .ok (.ireturn, 1) := by decide +kernel
theorem dX6_readCondition_84 : decode cX6_readCondition 84 = .ok (.aload_n 1, 1) := by decide +kernel
theorem dX6_readCondition_85 : decode cX6_readCondition 85 = .ok (.sipush 20103, 3) := by decide +kernel
theorem dX6_readCondition_88 : decode cX6_readCondition 88 = .ok (.invokevirtual 208, 3) := by decide +kernel
theorem dX6_readCondition_91 : decode cX6_readCondition 91 = .ok (.iconst 1, 1) := by decide +kernel
theorem dX6_readCondition_92 : decode cX6_readCondition 92 = .ok (.ireturn, 1) := by decide +kernel
theorem dX6_readCondition_93 : decode cX6_readCondition 93 = .ok (.aload_n 0, 1) := by decide +kernel
theorem dX6_readCondition_94 : decode cX6_readCondition 94 = .ok (.aload_n 1, 1) := by decide +kernel
theorem dX6_readCondition_95 : decode cX6_readCondition 95 = .ok (.invokevirtual 192, 3) := by decide +kernel
theorem dX6_readCondition_98 : decode cX6_readCondition 98 = .ok (.ifCond .ne 5, 3) := by decide +kernel
theorem dX6_readCondition_101 : decode cX6_readCondition 101 = .ok (.iconst 0, 1) := by decide +kernel
theorem dX6_readCondition_102 : decode cX6_readCondition 102 = .ok (.ireturn, 1) := by decide +kernel
theorem dX6_readCondition_103 : decode cX6_readCondition 103 = .ok (.aload_n 0, 1) := by decide +kernel
theorem dX6_readCondition_104 : decode cX6_readCondition 104 = .ok (.invokevirtual 62, 3) := by decide +kernel
theorem dX6_readCondition_107 : decode cX6_readCondition 107 = .ok (.istore 4, 2) := by decide +kernel
theorem dX6_readCondition_109 : decode cX6_readCondition 109 = .ok (.iload 4, 2) := by decide +kernel
theorem dX6_readCondition_111 : decode cX6_readCondition 111 = .ok (.bipush 60, 2) := by decide +kernel
theorem dX6_readCondition_113 : decode cX6_readCondition 113 = .ok (.if_icmp .eq 23, 3) := by decide +kernel
theorem dX6_readCondition_116 : decode cX6_readCondition 116 = .ok (.iload 4, 2) := by decide +kernel
theorem dX6_readCondition_118 : decode cX6_readCondition 118 = .ok (.bipush 61, 2) := by decide +kernel
theorem dX6_readCondition_120 : decode cX6_readCondition 120 = .ok (.if_icmp .eq 16, 3) := by decide +kernel
theorem dX6_readCondition_123 : decode cX6_readCondition 123 = .ok (.iload 4, 2) := by decide +kernel
theorem dX6_readCondition_125 : decode cX6_readCondition 125 = .ok (.bipush 62, 2) := by decide +kernel
theorem dX6_readCondition_127 : decode cX6_readCondition 127 = .ok (.if_icmp .eq 9, 3) := by decide +kernel
theorem dX6_readCondition_130 : decode cX6_readCondition 130 = .ok (.aload_n 0, 1) := by decide +kernel
theorem dX6_readCondition_131 : decode cX6_readCondition 131 = .ok (.iconst 1, 1) := by decide +kernel
theorem dX6_readCondition_132 : decode cX6_readCondition 132 = .ok (.invokevirtual 145, 3) := by decide +kernel
theorem dX6_readCondition_135 : decode cX6_readCondition 135 = .ok (.ireturn, 1) := by decide +kernel
theorem dX6_readCondition_136 : decode cX6_readCondition 136 = .ok (.aload_n 0, 1) := by decide +kernel
theorem dX6_readCondition_137 : decode cX6_readCondition 137 = .ok (.dup, 1) := by decide +kernel
theorem dX6_readCondition_138 : decode cX6_readCondition 138 = .ok (.getfield 82, 3) := by decide +kernel
theorem dX6_readCondition_141 : decode cX6_readCondition 141 = .ok (.iconst 1, 1) := by decide +kernel
theorem dX6_readCondition_142 : decode cX6_readCondition 142 = .ok (.iadd, 1) := by decide +kernel
theorem dX6_readCondition_143 : decode cX6_readCondition 143 = .ok (.putfield 82, 3) := by decide +kernel
theorem dX6_readCondition_146 : decode cX6_readCondition 146 = .ok (.aload_n 0, 1) := by decide +kernel
theorem dX6_readCondition_147 : decode cX6_readCondition 147 = .ok (.aload_n 1, 1) := by decide +kernel
theorem dX6_readCondition_148 : decode cX6_readCondition 148 = .ok (.invokevirtual 192, 3) := by decide +kernel
theorem dX6_readCondition_151 : decode cX6_readCondition 151 = .ok (.ifCond .ne 5, 3) := by decide +kernel
theorem dX6_readCondition_154 : decode cX6_readCondition 154 = .ok (.iconst 0, 1) := by decide +kernel
theorem dX6_readCondition_155 : decode cX6_readCondition 155 = .ok (.ireturn, 1) := by decide +kernel
theorem dX6_readCondition_156 : decode cX6_readCondition 156 = .ok (.aload_n 1, 1) := by decide +kernel
theorem dX6_readCondition_157 : decode cX6_readCondition 157 = .ok (.sipush 20000, 3) := by decide +kernel
theorem dX6_readCondition_160 : decode cX6_readCondition 160 = .ok (.iload 4, 2) := by decide +kernel
theorem dX6_readCondition_162 : decode cX6_readCondition 162 = .ok (.iadd, 1) := by decide +kernel
theorem dX6_readCondition_163 : decode cX6_readCondition 163 = .ok (.invokevirtual 208, 3) := by decide +kernel
theorem dX6_readCondition_166 : decode cX6_readCondition 166 = .ok (.iconst 1, 1) := by decide +kernel
theorem dX6_readCondition_167 : decode cX6_readCondition 167 = .ok (.ireturn, 1) := by decide +kernel
theorem dX6_readSum_0 : decode cX6_readSum 0 = .ok (.iconst 0, 1) := by decide +kernel
theorem dX6_readSum_1 : decode cX6_readSum 1 = .ok (.istore_n 2, 1) := by decide +kernel
theorem dX6_readSum_2 : decode cX6_readSum 2 = .ok (.iconst 0, 1) := by decide +kernel
theorem dX6_readSum_3 : decode cX6_readSum 3 = .ok (.istore_n 3, 1) := by decide +kernel
theorem dX6_readSum_4 : decode cX6_readSum 4 = .ok (.iconst 0, 1) := by decide +kernel
theorem dX6_readSum_5 : decode cX6_readSum 5 = .ok (.istore 4, 2) := by decide +kernel
theorem dX6_readSum_7 : decode cX6_readSum 7 = .ok (.iload 4, 2) := by decide +kernel
theorem dX6_readSum_9 : decode cX6_readSum 9 = .ok (.sipush 400, 3) := by decide +kernel
theorem dX6_readSum_12 : decode cX6_readSum 12 = .ok (.if_icmp .gt 232, 3) := by decide +kernel
theorem dX6_readSum_15 : decode cX6_readSum 15 = .ok (.aload_n 0, 1) := by decide +kernel
theorem dX6_readSum_16 : decode cX6_readSum 16 = .ok (.invokevirtual 62, 3) := by decide +kernel
theorem dX6_readSum_19 : decode cX6_readSum 19 = .ok (.istore 5, 2) := by decide +kernel
theorem dX6_readSum_21 : decode cX6_readSum 21 = .ok (.iload 5, 2) := by decide +kernel
theorem dX6_readSum_23 : decode cX6_readSum 23 = .ok (.bipush 108, 2) := by decide +kernel
theorem dX6_readSum_25 : decode cX6_readSum 25 = .ok (.if_icmp .lt 14, 3) := by decide +kernel
theorem dX6_readSum_28 : decode cX6_readSum 28 = .ok (.iload 5, 2) := by decide +kernel
theorem dX6_readSum_30 : decode cX6_readSum 30 = .ok (.bipush 116, 2) := by decide +kernel
theorem dX6_readSum_32 : decode cX6_readSum 32 = .ok (.if_icmp .ge 7, 3) := by decide +kernel
theorem dX6_readSum_35 : decode cX6_readSum 35 = .ok (.iconst 1, 1) := by decide +kernel
theorem dX6_readSum_36 : decode cX6_readSum 36 = .ok (.goto 4, 3) := by decide +kernel
theorem dX6_readSum_39 : decode cX6_readSum 39 = .ok (.iconst 0, 1) := by decide +kernel
theorem dX6_readSum_40 : decode cX6_readSum 40 = .ok (.istore 6, 2) := by decide +kernel
theorem dX6_readSum_42 : decode cX6_readSum 42 = .ok (.iload 5, 2) := by decide +kernel
theorem dX6_readSum_44 : decode cX6_readSum 44 = .ok (.iconst 2, 1) := by decide +kernel
theorem dX6_readSum_45 : decode cX6_readSum 45 = .ok (.if_icmp .eq 20, 3) := by decide +kernel
theorem dX6_readSum_48 : decode cX6_readSum 48 = .ok (.iload 6, 2) := by decide +kernel
theorem dX6_readSum_50 : decode cX6_readSum 50 = .ok (.ifCond .eq 9, 3) := by decide +kernel
theorem dX6_readSum_53 : decode cX6_readSum 53 = .ok (.iload_n 2, 1) := by decide +kernel
theorem dX6_readSum_54 : decode cX6_readSum 54 = .ok (.bipush 47, 2) := by decide +kernel
theorem dX6_readSum_56 : decode cX6_readSum 56 = .ok (.if_icmp .ne 9, 3) := by decide +kernel
theorem dX6_readSum_59 : decode cX6_readSum 59 = .ok (.aload_n 0, 1) := by decide +kernel
theorem dX6_readSum_60 : decode cX6_readSum 60 = .ok (.iconst 1, 1) := by decide +kernel
theorem dX6_readSum_61 : decode cX6_readSum 61 = .ok (.invokevirtual 145, 3) := by decide +kernel
theorem dX6_readSum_64 : decode cX6_readSum 64 = .ok (.ireturn, 1) := by decide +kernel
theorem dX6_readSum_65 : decode cX6_readSum 65 = .ok (.aload_n 0, 1) := by decide +kernel
theorem dX6_readSum_66 : decode cX6_readSum 66 = .ok (.aload_n 0, 1) := by decide +kernel
theorem dX6_readSum_67 : decode cX6_readSum 67 = .ok (.getfield 22, 3) := by decide +kernel
theorem dX6_readSum_70 : decode cX6_readSum 70 = .ok (.invokevirtual 141, 3) := by decide +kernel
theorem dX6_readSum_73 : decode cX6_readSum 73 = .ok (.istore 7, 2) := by decide +kernel
theorem dX6_readSum_75 : decode cX6_readSum 75 = .ok (.iload_n 2, 1) := by decide +kernel
theorem dX6_readSum_76 : decode cX6_readSum 76 = .ok (.bipush 47, 2) := by decide +kernel
theorem dX6_readSum_78 : decode cX6_readSum 78 = .ok (.if_icmp .ne 14, 3) := by decide +kernel
theorem dX6_readSum_81 : decode cX6_readSum 81 = .ok (.iload 7, 2) := by decide +kernel
theorem dX6_readSum_83 : decode cX6_readSum 83 = .ok (.ifCond .ne 9, 3) := by decide +kernel
theorem dX6_readSum_86 : decode cX6_readSum 86 = .ok (.aload_n 0, 1) := by decide +kernel
theorem dX6_readSum_87 : decode cX6_readSum 87 = .ok (.iconst 2, 1) := by decide +kernel
theorem dX6_readSum_88 : decode cX6_readSum 88 = .ok (.invokevirtual 145, 3) := by decide +kernel
theorem dX6_readSum_91 : decode cX6_readSum 91 = .ok (.ireturn, 1) := by decide +kernel
theorem dX6_readSum_92 : decode cX6_readSum 92 = .ok (.aload_n 1, 1) := by decide +kernel
theorem dX6_readSum_93 : decode cX6_readSum 93 = .ok (.iload 6, 2) := by decide +kernel
theorem dX6_readSum_95 : decode cX6_readSum 95 = .ok (.ifCond .eq 15, 3) := by decide +kernel
theorem dX6_readSum_98 : decode cX6_readSum 98 = .ok (.sipush 10000, 3) := by decide +kernel
theorem dX6_readSum_101 : decode cX6_readSum 101 = .ok (.iload 5, 2) := by decide +kernel
theorem dX6_readSum_103 : decode cX6_readSum 103 = .ok (.iadd, 1) := by decide +kernel
theorem dX6_readSum_104 : decode cX6_readSum 104 = .ok (.bipush 108, 2) := by decide +kernel
theorem dX6_readSum_106 : decode cX6_readSum 106 = .ok (.isub, 1) := by decide +kernel
theorem dX6_readSum_107 : decode cX6_readSum 107 = .ok (.goto 5, 3) := by decide +kernel
theorem dX6_readSum_110 : decode cX6_readSum 110 = .ok (.iload 7, 2) := by decide +kernel
theorem dX6_readSum_112 : decode cX6_readSum 112 = .ok (.invokevirtual 208, 3) := by decide +kernel
theorem dX6_readSum_115 : decode cX6_readSum 115 = .ok (.aload_n 0, 1) := by decide +kernel
theorem dX6_readSum_116 : decode cX6_readSum 116 = .ok (.dup, 1) := by decide +kernel
theorem dX6_readSum_117 : decode cX6_readSum 117 = .ok (.getfield 82, 3) := by decide +kernel
theorem dX6_readSum_120 : decode cX6_readSum 120 = .ok (.iconst 1, 1) := by decide +kernel
theorem dX6_readSum_121 : decode cX6_readSum 121 = .ok (.iadd, 1) := by decide +kernel
theorem dX6_readSum_122 : decode cX6_readSum 122 = .ok (.putfield 82, 3) := by decide +kernel
theorem dX6_readSum_125 : decode cX6_readSum 125 = .ok (.iload_n 2, 1) := by decide +kernel
theorem dX6_readSum_126 : decode cX6_readSum 126 = .ok (.ifCond .eq 12, 3) := by decide +kernel
theorem dX6_readSum_129 : decode cX6_readSum 129 = .ok (.aload_n 1, 1) := by decide +kernel
theorem dX6_readSum_130 : decode cX6_readSum 130 = .ok (.sipush 20000, 3) := by decide +kernel
theorem dX6_readSum_133 : decode cX6_readSum 133 = .ok (.iload_n 2, 1) := by decide +kernel
theorem dX6_readSum_134 : decode cX6_readSum 134 = .ok (.iadd, 1) := by decide +kernel
theorem dX6_readSum_135 : decode cX6_readSum 135 = .ok (.invokevirtual 208, 3) := by decide +kernel
theorem dX6_readSum_138 : decode cX6_readSum 138 = .ok (.aload_n 0, 1) := by decide +kernel
theorem dX6_readSum_139 : decode cX6_readSum 139 = .ok (.invokevirtual 62, 3) := by decide +kernel
theorem dX6_readSum_142 : decode cX6_readSum 142 = .ok (.bipush 42, 2) := by decide +kernel
theorem dX6_readSum_144 : decode cX6_readSum 144 = .ok (.if_icmp .eq 12, 3) := by decide +kernel
theorem dX6_readSum_147 : decode cX6_readSum 147 = .ok (.aload_n 0, 1) := by decide +kernel
theorem dX6_readSum_148 : decode cX6_readSum 148 = .ok (.invokevirtual 62, 3) := by decide +kernel
theorem dX6_readSum_151 : decode cX6_readSum 151 = .ok (.bipush 47, 2) := by decide +kernel
theorem dX6_readSum_153 : decode cX6_readSum 153 = .ok (.if_icmp .ne 10, 3) := by decide +kernel
theorem dX6_readSum_156 : decode cX6_readSum 156 = .ok (.aload_n 0, 1) := by decide +kernel
theorem dX6_readSum_157 : decode cX6_readSum 157 = .ok (.invokevirtual 62, 3) := by decide +kernel
theorem dX6_readSum_160 : decode cX6_readSum 160 = .ok (.goto 4, 3) := by decide +kernel
theorem dX6_readSum_163 : decode cX6_readSum 163 = .ok (.iconst 0, 1) := by decide +kernel
theorem dX6_readSum_164 : decode cX6_readSum 164 = .ok (.istore_n 2, 1) := by decide +kernel
theorem dX6_readSum_165 : decode cX6_readSum 165 = .ok (.iload_n 2, 1) := by decide +kernel
theorem dX6_readSum_166 : decode cX6_readSum 166 = .ok (.ifCond .eq 16, 3) := by decide +kernel
theorem dX6_readSum_169 : decode cX6_readSum 169 = .ok (.aload_n 0, 1) := by decide +kernel
theorem dX6_readSum_170 : decode cX6_readSum 170 = .ok (.dup, 1) := by decide +kernel
theorem dX6_readSum_171 : decode cX6_readSum 171 = .ok (.getfield 82, 3) := by decide +kernel
theorem dX6_readSum_174 : decode cX6_readSum 174 = .ok (.iconst 1, 1) := by decide +kernel
theorem dX6_readSum_175 : decode cX6_readSum 175 = .ok (.iadd, 1) := by decide +kernel
theorem dX6_readSum_176 : decode cX6_readSum 176 = .ok (.putfield 82, 3) := by decide +kernel
theorem dX6_readSum_179 : decode cX6_readSum 179 = .ok (.goto 59, 3) := by decide +kernel
theorem dX6_readSum_182 : decode cX6_readSum 182 = .ok (.iload_n 3, 1) := by decide +kernel
theorem dX6_readSum_183 : decode cX6_readSum 183 = .ok (.ifCond .eq 12, 3) := by decide +kernel
theorem dX6_readSum_186 : decode cX6_readSum 186 = .ok (.aload_n 1, 1) := by decide +kernel
theorem dX6_readSum_187 : decode cX6_readSum 187 = .ok (.sipush 20000, 3) := by decide +kernel
theorem dX6_readSum_190 : decode cX6_readSum 190 = .ok (.iload_n 3, 1) := by decide +kernel
theorem dX6_readSum_191 : decode cX6_readSum 191 = .ok (.iadd, 1) := by decide +kernel
theorem dX6_readSum_192 : decode cX6_readSum 192 = .ok (.invokevirtual 208, 3) := by decide +kernel
theorem dX6_readSum_195 : decode cX6_readSum 195 = .ok (.aload_n 0, 1) := by decide +kernel
theorem dX6_readSum_196 : decode cX6_readSum 196 = .ok (.invokevirtual 62, 3) := by decide +kernel
theorem dX6_readSum_199 : decode cX6_readSum 199 = .ok (.bipush 43, 2) := by decide +kernel
theorem dX6_readSum_201 : decode cX6_readSum 201 = .ok (.if_icmp .eq 12, 3) := by decide +kernel
theorem dX6_readSum_204 : decode cX6_readSum 204 = .ok (.aload_n 0, 1) := by decide +kernel
theorem dX6_readSum_205 : decode cX6_readSum 205 = .ok (.invokevirtual 62, 3) := by decide +kernel
theorem dX6_readSum_208 : decode cX6_readSum 208 = .ok (.bipush 45, 2) := by decide +kernel
theorem dX6_readSum_210 : decode cX6_readSum 210 = .ok (.if_icmp .ne 10, 3) := by decide +kernel
theorem dX6_readSum_213 : decode cX6_readSum 213 = .ok (.aload_n 0, 1) := by decide +kernel
theorem dX6_readSum_214 : decode cX6_readSum 214 = .ok (.invokevirtual 62, 3) := by decide +kernel
theorem dX6_readSum_217 : decode cX6_readSum 217 = .ok (.goto 4, 3) := by decide +kernel
theorem dX6_readSum_220 : decode cX6_readSum 220 = .ok (.iconst 0, 1) := by decide +kernel
theorem dX6_readSum_221 : decode cX6_readSum 221 = .ok (.istore_n 3, 1) := by decide +kernel
theorem dX6_readSum_222 : decode cX6_readSum 222 = .ok (.iload_n 3, 1) := by decide +kernel
theorem dX6_readSum_223 : decode cX6_readSum 223 = .ok (.ifCond .ne 5, 3) := by decide +kernel
theorem dX6_readSum_226 : decode cX6_readSum 226 = .ok (.iconst 1, 1) := by decide +kernel
theorem dX6_readSum_227 : decode cX6_readSum 227 = .ok (.ireturn, 1) := by decide +kernel
theorem dX6_readSum_228 : decode cX6_readSum 228 = .ok (.aload_n 0, 1) := by decide +kernel
theorem dX6_readSum_229 : decode cX6_readSum 229 = .ok (.dup, 1) := by decide +kernel
theorem dX6_readSum_230 : decode cX6_readSum 230 = .ok (.getfield 82, 3) := by decide +kernel
theorem dX6_readSum_233 : decode cX6_readSum 233 = .ok (.iconst 1, 1) := by decide +kernel
theorem dX6_readSum_234 : decode cX6_readSum 234 = .ok (.iadd, 1) := by decide +kernel
theorem dX6_readSum_235 : decode cX6_readSum 235 = .ok (.putfield 82, 3) := by decide +kernel
theorem dX6_readSum_238 : decode cX6_readSum 238 = .ok (.iinc 4 1, 3) := by decide +kernel
theorem dX6_readSum_241 : decode cX6_readSum 241 = .ok (.goto (-234), 3) := by decide +kernel
theorem dX6_readSum_244 : decode cX6_readSum 244 = .ok (.iconst 0, 1) := by decide +kernel
theorem dX6_readSum_245 : decode cX6_readSum 245 = .ok (.ireturn, 1) := by decide +kernel
theorem dX7_mostToGo_0 : decode cX7_mostToGo 0 = .ok (.aload_n 0, 1) := by decide +kernel
theorem dX7_mostToGo_1 : decode cX7_mostToGo 1 = .ok (.invokevirtual 9, 3) := by decide +kernel
theorem dX7_mostToGo_4 : decode cX7_mostToGo 4 = .ok (.istore_n 1, 1) := by decide +kernel
theorem dX7_mostToGo_5 : decode cX7_mostToGo 5 = .ok (.aload_n 0, 1) := by decide +kernel
theorem dX7_mostToGo_6 : decode cX7_mostToGo 6 = .ok (.invokevirtual 15, 3) := by decide +kernel
theorem dX7_mostToGo_9 : decode cX7_mostToGo 9 = .ok (.istore_n 2, 1) := by decide +kernel
theorem dX7_mostToGo_10 : decode cX7_mostToGo 10 = .ok (.iconst 0, 1) := by decide +kernel
theorem dX7_mostToGo_11 : decode cX7_mostToGo 11 = .ok (.istore_n 3, 1) := by decide +kernel
theorem dX7_mostToGo_12 : decode cX7_mostToGo 12 = .ok (.iconst 1, 1) := by decide +kernel
theorem dX7_mostToGo_13 : decode cX7_mostToGo 13 = .ok (.istore 4, 2) := by decide +kernel
theorem dX7_mostToGo_15 : decode cX7_mostToGo 15 = .ok (.iload 4, 2) := by decide +kernel
theorem dX7_mostToGo_17 : decode cX7_mostToGo 17 = .ok (.iload_n 1, 1) := by decide +kernel
theorem dX7_mostToGo_18 : decode cX7_mostToGo 18 = .ok (.if_icmp .gt 53, 3) := by decide +kernel
theorem dX7_mostToGo_21 : decode cX7_mostToGo 21 = .ok (.iload 4, 2) := by decide +kernel
theorem dX7_mostToGo_23 : decode cX7_mostToGo 23 = .ok (.iload_n 1, 1) := by decide +kernel
theorem dX7_mostToGo_24 : decode cX7_mostToGo 24 = .ok (.iconst (-1), 1) := by decide +kernel
theorem dX7_mostToGo_25 : decode cX7_mostToGo 25 = .ok (.ixor, 1) := by decide +kernel
theorem dX7_mostToGo_26 : decode cX7_mostToGo 26 = .ok (.iand, 1) := by decide +kernel
theorem dX7_mostToGo_27 : decode cX7_mostToGo 27 = .ok (.ifCond .ne 38, 3) := by decide +kernel
theorem dX7_mostToGo_30 : decode cX7_mostToGo 30 = .ok (.iload 4, 2) := by decide +kernel
theorem dX7_mostToGo_32 : decode cX7_mostToGo 32 = .ok (.invokestatic 18, 3) := by decide +kernel
theorem dX7_mostToGo_35 : decode cX7_mostToGo 35 = .ok (.iload_n 3, 1) := by decide +kernel
theorem dX7_mostToGo_36 : decode cX7_mostToGo 36 = .ok (.invokestatic 18, 3) := by decide +kernel
theorem dX7_mostToGo_39 : decode cX7_mostToGo 39 = .ok (.if_icmp .le 26, 3) := by decide +kernel
theorem dX7_mostToGo_42 : decode cX7_mostToGo 42 = .ok (.iload_n 2, 1) := by decide +kernel
theorem dX7_mostToGo_43 : decode cX7_mostToGo 43 = .ok (.aload_n 0, 1) := by decide +kernel
theorem dX7_mostToGo_44 : decode cX7_mostToGo 44 = .ok (.getfield 24, 3) := by decide +kernel
theorem dX7_mostToGo_47 : decode cX7_mostToGo 47 = .ok (.iload_n 1, 1) := by decide +kernel
theorem dX7_mostToGo_48 : decode cX7_mostToGo 48 = .ok (.iload 4, 2) := by decide +kernel
theorem dX7_mostToGo_50 : decode cX7_mostToGo 50 = .ok (.iconst (-1), 1) := by decide +kernel
theorem dX7_mostToGo_51 : decode cX7_mostToGo 51 = .ok (.ixor, 1) := by decide +kernel
theorem dX7_mostToGo_52 : decode cX7_mostToGo 52 = .ok (.iand, 1) := by decide +kernel
theorem dX7_mostToGo_53 : decode cX7_mostToGo 53 = .ok (.invokevirtual 28, 3) := by decide +kernel
theorem dX7_mostToGo_56 : decode cX7_mostToGo 56 = .ok (.iconst (-1), 1) := by decide +kernel
theorem dX7_mostToGo_57 : decode cX7_mostToGo 57 = .ok (.ixor, 1) := by decide +kernel
theorem dX7_mostToGo_58 : decode cX7_mostToGo 58 = .ok (.iand, 1) := by decide +kernel
theorem dX7_mostToGo_59 : decode cX7_mostToGo 59 = .ok (.ifCond .ne 6, 3) := by decide +kernel
theorem dX7_mostToGo_62 : decode cX7_mostToGo 62 = .ok (.iload 4, 2) := by decide +kernel
theorem dX7_mostToGo_64 : decode cX7_mostToGo 64 = .ok (.istore_n 3, 1) := by decide +kernel
theorem dX7_mostToGo_65 : decode cX7_mostToGo 65 = .ok (.iinc 4 1, 3) := by decide +kernel
theorem dX7_mostToGo_68 : decode cX7_mostToGo 68 = .ok (.goto (-53), 3) := by decide +kernel
theorem dX7_mostToGo_71 : decode cX7_mostToGo 71 = .ok (.iload_n 3, 1) := by decide +kernel
theorem dX7_mostToGo_72 : decode cX7_mostToGo 72 = .ok (.ireturn, 1) := by decide +kernel
theorem dX7_fewestToCarve_0 : decode cX7_fewestToCarve 0 = .ok (.iconst 1, 1) := by decide +kernel
theorem dX7_fewestToCarve_1 : decode cX7_fewestToCarve 1 = .ok (.aload_n 0, 1) := by decide +kernel
theorem dX7_fewestToCarve_2 : decode cX7_fewestToCarve 2 = .ok (.getfield 24, 3) := by decide +kernel
theorem dX7_fewestToCarve_5 : decode cX7_fewestToCarve 5 = .ok (.getfield 33, 3) := by decide +kernel
theorem dX7_fewestToCarve_8 : decode cX7_fewestToCarve 8 = .ok (.ishl, 1) := by decide +kernel
theorem dX7_fewestToCarve_9 : decode cX7_fewestToCarve 9 = .ok (.iconst 1, 1) := by decide +kernel
theorem dX7_fewestToCarve_10 : decode cX7_fewestToCarve 10 = .ok (.isub, 1) := by decide +kernel
theorem dX7_fewestToCarve_11 : decode cX7_fewestToCarve 11 = .ok (.istore_n 1, 1) := by decide +kernel
theorem dX7_fewestToCarve_12 : decode cX7_fewestToCarve 12 = .ok (.aload_n 0, 1) := by decide +kernel
theorem dX7_fewestToCarve_13 : decode cX7_fewestToCarve 13 = .ok (.aload_n 0, 1) := by decide +kernel
theorem dX7_fewestToCarve_14 : decode cX7_fewestToCarve 14 = .ok (.invokevirtual 9, 3) := by decide +kernel
theorem dX7_fewestToCarve_17 : decode cX7_fewestToCarve 17 = .ok (.aload_n 0, 1) := by decide +kernel
theorem dX7_fewestToCarve_18 : decode cX7_fewestToCarve 18 = .ok (.getfield 37, 3) := by decide +kernel
theorem dX7_fewestToCarve_21 : decode cX7_fewestToCarve 21 = .ok (.getfield 41, 3) := by decide +kernel
theorem dX7_fewestToCarve_24 : decode cX7_fewestToCarve 24 = .ok (.iload_n 1, 1) := by decide +kernel
theorem dX7_fewestToCarve_25 : decode cX7_fewestToCarve 25 = .ok (.invokestatic 46, 3) := by decide +kernel
theorem dX7_fewestToCarve_28 : decode cX7_fewestToCarve 28 = .ok (.ireturn, 1) := by decide +kernel
theorem dX7_fewestToTeach_0 : decode cX7_fewestToTeach 0 = .ok (.aload_n 0, 1) := by decide +kernel
theorem dX7_fewestToTeach_1 : decode cX7_fewestToTeach 1 = .ok (.iload_n 1, 1) := by decide +kernel
theorem dX7_fewestToTeach_2 : decode cX7_fewestToTeach 2 = .ok (.invokevirtual 52, 3) := by decide +kernel
theorem dX7_fewestToTeach_5 : decode cX7_fewestToTeach 5 = .ok (.ifCond .ne 5, 3) := by decide +kernel
theorem dX7_fewestToTeach_8 : decode cX7_fewestToTeach 8 = .ok (.iconst 0, 1) := by decide +kernel
theorem dX7_fewestToTeach_9 : decode cX7_fewestToTeach 9 = .ok (.ireturn, 1) := by decide +kernel
theorem dX7_fewestToTeach_10 : decode cX7_fewestToTeach 10 = .ok (.aload_n 0, 1) := by decide +kernel
theorem dX7_fewestToTeach_11 : decode cX7_fewestToTeach 11 = .ok (.getfield 37, 3) := by decide +kernel
theorem dX7_fewestToTeach_14 : decode cX7_fewestToTeach 14 = .ok (.getfield 56, 3) := by decide +kernel
theorem dX7_fewestToTeach_17 : decode cX7_fewestToTeach 17 = .ok (.iload_n 1, 1) := by decide +kernel
theorem dX7_fewestToTeach_18 : decode cX7_fewestToTeach 18 = .ok (.iaload, 1) := by decide +kernel
theorem dX7_fewestToTeach_19 : decode cX7_fewestToTeach 19 = .ok (.istore_n 2, 1) := by decide +kernel
theorem dX7_fewestToTeach_20 : decode cX7_fewestToTeach 20 = .ok (.aload_n 0, 1) := by decide +kernel
theorem dX7_fewestToTeach_21 : decode cX7_fewestToTeach 21 = .ok (.iload_n 2, 1) := by decide +kernel
theorem dX7_fewestToTeach_22 : decode cX7_fewestToTeach 22 = .ok (.aload_n 0, 1) := by decide +kernel
theorem dX7_fewestToTeach_23 : decode cX7_fewestToTeach 23 = .ok (.invokevirtual 9, 3) := by decide +kernel
theorem dX7_fewestToTeach_26 : decode cX7_fewestToTeach 26 = .ok (.iload_n 2, 1) := by decide +kernel
theorem dX7_fewestToTeach_27 : decode cX7_fewestToTeach 27 = .ok (.iconst (-1), 1) := by decide +kernel
theorem dX7_fewestToTeach_28 : decode cX7_fewestToTeach 28 = .ok (.ixor, 1) := by decide +kernel
theorem dX7_fewestToTeach_29 : decode cX7_fewestToTeach 29 = .ok (.iand, 1) := by decide +kernel
theorem dX7_fewestToTeach_30 : decode cX7_fewestToTeach 30 = .ok (.aload_n 0, 1) := by decide +kernel
theorem dX7_fewestToTeach_31 : decode cX7_fewestToTeach 31 = .ok (.invokevirtual 15, 3) := by decide +kernel
theorem dX7_fewestToTeach_34 : decode cX7_fewestToTeach 34 = .ok (.invokestatic 46, 3) := by decide +kernel
theorem dX7_fewestToTeach_37 : decode cX7_fewestToTeach 37 = .ok (.ireturn, 1) := by decide +kernel
theorem dX7_fewestToAdd_0 : decode cX7_fewestToAdd 0 = .ok (.iload_n 2, 1) := by decide +kernel
theorem dX7_fewestToAdd_1 : decode cX7_fewestToAdd 1 = .ok (.istore 4, 2) := by decide +kernel
theorem dX7_fewestToAdd_3 : decode cX7_fewestToAdd 3 = .ok (.iconst 0, 1) := by decide +kernel
theorem dX7_fewestToAdd_4 : decode cX7_fewestToAdd 4 = .ok (.istore 5, 2) := by decide +kernel
theorem dX7_fewestToAdd_6 : decode cX7_fewestToAdd 6 = .ok (.iload 5, 2) := by decide +kernel
theorem dX7_fewestToAdd_8 : decode cX7_fewestToAdd 8 = .ok (.iload_n 2, 1) := by decide +kernel
theorem dX7_fewestToAdd_9 : decode cX7_fewestToAdd 9 = .ok (.if_icmp .ge 53, 3) := by decide +kernel
theorem dX7_fewestToAdd_12 : decode cX7_fewestToAdd 12 = .ok (.iload 5, 2) := by decide +kernel
theorem dX7_fewestToAdd_14 : decode cX7_fewestToAdd 14 = .ok (.iload_n 2, 1) := by decide +kernel
theorem dX7_fewestToAdd_15 : decode cX7_fewestToAdd 15 = .ok (.iconst (-1), 1) := by decide +kernel
theorem dX7_fewestToAdd_16 : decode cX7_fewestToAdd 16 = .ok (.ixor, 1) := by decide +kernel
theorem dX7_fewestToAdd_17 : decode cX7_fewestToAdd 17 = .ok (.iand, 1) := by decide +kernel
theorem dX7_fewestToAdd_18 : decode cX7_fewestToAdd 18 = .ok (.ifCond .ne 38, 3) := by decide +kernel
theorem dX7_fewestToAdd_21 : decode cX7_fewestToAdd 21 = .ok (.iload 5, 2) := by decide +kernel
theorem dX7_fewestToAdd_23 : decode cX7_fewestToAdd 23 = .ok (.invokestatic 18, 3) := by decide +kernel
theorem dX7_fewestToAdd_26 : decode cX7_fewestToAdd 26 = .ok (.iload 4, 2) := by decide +kernel
theorem dX7_fewestToAdd_28 : decode cX7_fewestToAdd 28 = .ok (.invokestatic 18, 3) := by decide +kernel
theorem dX7_fewestToAdd_31 : decode cX7_fewestToAdd 31 = .ok (.if_icmp .ge 25, 3) := by decide +kernel
theorem dX7_fewestToAdd_34 : decode cX7_fewestToAdd 34 = .ok (.iload_n 3, 1) := by decide +kernel
theorem dX7_fewestToAdd_35 : decode cX7_fewestToAdd 35 = .ok (.aload_n 0, 1) := by decide +kernel
theorem dX7_fewestToAdd_36 : decode cX7_fewestToAdd 36 = .ok (.getfield 24, 3) := by decide +kernel
theorem dX7_fewestToAdd_39 : decode cX7_fewestToAdd 39 = .ok (.iload_n 1, 1) := by decide +kernel
theorem dX7_fewestToAdd_40 : decode cX7_fewestToAdd 40 = .ok (.iload 5, 2) := by decide +kernel
theorem dX7_fewestToAdd_42 : decode cX7_fewestToAdd 42 = .ok (.ior, 1) := by decide +kernel
theorem dX7_fewestToAdd_43 : decode cX7_fewestToAdd 43 = .ok (.invokevirtual 28, 3) := by decide +kernel
theorem dX7_fewestToAdd_46 : decode cX7_fewestToAdd 46 = .ok (.iconst (-1), 1) := by decide +kernel
theorem dX7_fewestToAdd_47 : decode cX7_fewestToAdd 47 = .ok (.ixor, 1) := by decide +kernel
theorem dX7_fewestToAdd_48 : decode cX7_fewestToAdd 48 = .ok (.iand, 1) := by decide +kernel
theorem dX7_fewestToAdd_49 : decode cX7_fewestToAdd 49 = .ok (.ifCond .ne 7, 3) := by decide +kernel
theorem dX7_fewestToAdd_52 : decode cX7_fewestToAdd 52 = .ok (.iload 5, 2) := by decide +kernel
theorem dX7_fewestToAdd_54 : decode cX7_fewestToAdd 54 = .ok (.istore 4, 2) := by decide +kernel
theorem dX7_fewestToAdd_56 : decode cX7_fewestToAdd 56 = .ok (.iinc 5 1, 3) := by decide +kernel
theorem dX7_fewestToAdd_59 : decode cX7_fewestToAdd 59 = .ok (.goto (-53), 3) := by decide +kernel
theorem dX7_fewestToAdd_62 : decode cX7_fewestToAdd 62 = .ok (.iload 4, 2) := by decide +kernel
theorem dX7_fewestToAdd_64 : decode cX7_fewestToAdd 64 = .ok (.ireturn, 1) := by decide +kernel
theorem dX7_fewestKeepers_0 : decode cX7_fewestKeepers 0 = .ok (.iconst 1, 1) := by decide +kernel
theorem dX7_fewestKeepers_1 : decode cX7_fewestKeepers 1 = .ok (.aload_n 0, 1) := by decide +kernel
theorem dX7_fewestKeepers_2 : decode cX7_fewestKeepers 2 = .ok (.getfield 60, 3) := by decide +kernel
theorem dX7_fewestKeepers_5 : decode cX7_fewestKeepers 5 = .ok (.ishl, 1) := by decide +kernel
theorem dX7_fewestKeepers_6 : decode cX7_fewestKeepers 6 = .ok (.iconst 1, 1) := by decide +kernel
theorem dX7_fewestKeepers_7 : decode cX7_fewestKeepers 7 = .ok (.isub, 1) := by decide +kernel
theorem dX7_fewestKeepers_8 : decode cX7_fewestKeepers 8 = .ok (.istore_n 1, 1) := by decide +kernel
theorem dX7_fewestKeepers_9 : decode cX7_fewestKeepers 9 = .ok (.aload_n 0, 1) := by decide +kernel
theorem dX7_fewestKeepers_10 : decode cX7_fewestKeepers 10 = .ok (.iload_n 1, 1) := by decide +kernel
theorem dX7_fewestKeepers_11 : decode cX7_fewestKeepers 11 = .ok (.invokestatic 63, 3) := by decide +kernel
theorem dX7_fewestKeepers_14 : decode cX7_fewestKeepers 14 = .ok (.istore_n 2, 1) := by decide +kernel
theorem dX7_fewestKeepers_15 : decode cX7_fewestKeepers 15 = .ok (.iload_n 1, 1) := by decide +kernel
theorem dX7_fewestKeepers_16 : decode cX7_fewestKeepers 16 = .ok (.istore_n 3, 1) := by decide +kernel
theorem dX7_fewestKeepers_17 : decode cX7_fewestKeepers 17 = .ok (.iconst 0, 1) := by decide +kernel
theorem dX7_fewestKeepers_18 : decode cX7_fewestKeepers 18 = .ok (.istore 4, 2) := by decide +kernel
theorem dX7_fewestKeepers_20 : decode cX7_fewestKeepers 20 = .ok (.iload 4, 2) := by decide +kernel
theorem dX7_fewestKeepers_22 : decode cX7_fewestKeepers 22 = .ok (.iload_n 1, 1) := by decide +kernel
theorem dX7_fewestKeepers_23 : decode cX7_fewestKeepers 23 = .ok (.if_icmp .ge 34, 3) := by decide +kernel
theorem dX7_fewestKeepers_26 : decode cX7_fewestKeepers 26 = .ok (.iload 4, 2) := by decide +kernel
theorem dX7_fewestKeepers_28 : decode cX7_fewestKeepers 28 = .ok (.invokestatic 18, 3) := by decide +kernel
theorem dX7_fewestKeepers_31 : decode cX7_fewestKeepers 31 = .ok (.iload_n 3, 1) := by decide +kernel
theorem dX7_fewestKeepers_32 : decode cX7_fewestKeepers 32 = .ok (.invokestatic 18, 3) := by decide +kernel
theorem dX7_fewestKeepers_35 : decode cX7_fewestKeepers 35 = .ok (.if_icmp .ge 16, 3) := by decide +kernel
theorem dX7_fewestKeepers_38 : decode cX7_fewestKeepers 38 = .ok (.aload_n 0, 1) := by decide +kernel
theorem dX7_fewestKeepers_39 : decode cX7_fewestKeepers 39 = .ok (.iload 4, 2) := by decide +kernel
theorem dX7_fewestKeepers_41 : decode cX7_fewestKeepers 41 = .ok (.invokestatic 63, 3) := by decide +kernel
theorem dX7_fewestKeepers_44 : decode cX7_fewestKeepers 44 = .ok (.iload_n 2, 1) := by decide +kernel
theorem dX7_fewestKeepers_45 : decode cX7_fewestKeepers 45 = .ok (.if_icmp .ne 6, 3) := by decide +kernel
theorem dX7_fewestKeepers_48 : decode cX7_fewestKeepers 48 = .ok (.iload 4, 2) := by decide +kernel
theorem dX7_fewestKeepers_50 : decode cX7_fewestKeepers 50 = .ok (.istore_n 3, 1) := by decide +kernel
theorem dX7_fewestKeepers_51 : decode cX7_fewestKeepers 51 = .ok (.iinc 4 1, 3) := by decide +kernel
theorem dX7_fewestKeepers_54 : decode cX7_fewestKeepers 54 = .ok (.goto (-34), 3) := by decide +kernel
theorem dX7_fewestKeepers_57 : decode cX7_fewestKeepers 57 = .ok (.iload_n 3, 1) := by decide +kernel
theorem dX7_fewestKeepers_58 : decode cX7_fewestKeepers 58 = .ok (.ireturn, 1) := by decide +kernel
theorem dX7_tonguesTogether_0 : decode cX7_tonguesTogether 0 = .ok (.iconst 0, 1) := by decide +kernel
theorem dX7_tonguesTogether_1 : decode cX7_tonguesTogether 1 = .ok (.istore_n 2, 1) := by decide +kernel
theorem dX7_tonguesTogether_2 : decode cX7_tonguesTogether 2 = .ok (.iconst 0, 1) := by decide +kernel
theorem dX7_tonguesTogether_3 : decode cX7_tonguesTogether 3 = .ok (.istore_n 3, 1) := by decide +kernel
theorem dX7_tonguesTogether_4 : decode cX7_tonguesTogether 4 = .ok (.iload_n 3, 1) := by decide +kernel
theorem dX7_tonguesTogether_5 : decode cX7_tonguesTogether 5 = .ok (.aload_n 0, 1) := by decide +kernel
theorem dX7_tonguesTogether_6 : decode cX7_tonguesTogether 6 = .ok (.getfield 60, 3) := by decide +kernel
theorem dX7_tonguesTogether_9 : decode cX7_tonguesTogether 9 = .ok (.if_icmp .ge 29, 3) := by decide +kernel
theorem dX7_tonguesTogether_12 : decode cX7_tonguesTogether 12 = .ok (.iload_n 1, 1) := by decide +kernel
theorem dX7_tonguesTogether_13 : decode cX7_tonguesTogether 13 = .ok (.iload_n 3, 1) := by decide +kernel
theorem dX7_tonguesTogether_14 : decode cX7_tonguesTogether 14 = .ok (.invokestatic 67, 3) := by decide +kernel
theorem dX7_tonguesTogether_17 : decode cX7_tonguesTogether 17 = .ok (.ifCond .eq 15, 3) := by decide +kernel
theorem dX7_tonguesTogether_20 : decode cX7_tonguesTogether 20 = .ok (.iload_n 2, 1) := by decide +kernel
theorem dX7_tonguesTogether_21 : decode cX7_tonguesTogether 21 = .ok (.aload_n 0, 1) := by decide +kernel
theorem dX7_tonguesTogether_22 : decode cX7_tonguesTogether 22 = .ok (.getfield 37, 3) := by decide +kernel
theorem dX7_tonguesTogether_25 : decode cX7_tonguesTogether 25 = .ok (.getfield 56, 3) := by decide +kernel
theorem dX7_tonguesTogether_28 : decode cX7_tonguesTogether 28 = .ok (.iload_n 3, 1) := by decide +kernel
theorem dX7_tonguesTogether_29 : decode cX7_tonguesTogether 29 = .ok (.iaload, 1) := by decide +kernel
theorem dX7_tonguesTogether_30 : decode cX7_tonguesTogether 30 = .ok (.ior, 1) := by decide +kernel
theorem dX7_tonguesTogether_31 : decode cX7_tonguesTogether 31 = .ok (.istore_n 2, 1) := by decide +kernel
theorem dX7_tonguesTogether_32 : decode cX7_tonguesTogether 32 = .ok (.iinc 3 1, 3) := by decide +kernel
theorem dX7_tonguesTogether_35 : decode cX7_tonguesTogether 35 = .ok (.goto (-31), 3) := by decide +kernel
theorem dX7_tonguesTogether_38 : decode cX7_tonguesTogether 38 = .ok (.iload_n 2, 1) := by decide +kernel
theorem dX7_tonguesTogether_39 : decode cX7_tonguesTogether 39 = .ok (.ireturn, 1) := by decide +kernel
theorem dX7_cost_0 : decode cX7_cost 0 = .ok (.aload_n 0, 1) := by decide +kernel
theorem dX7_cost_1 : decode cX7_cost 1 = .ok (.iload_n 1, 1) := by decide +kernel
theorem dX7_cost_2 : decode cX7_cost 2 = .ok (.invokevirtual 52, 3) := by decide +kernel
theorem dX7_cost_5 : decode cX7_cost 5 = .ok (.ifCond .ne 5, 3) := by decide +kernel
theorem dX7_cost_8 : decode cX7_cost 8 = .ok (.iconst 0, 1) := by decide +kernel
theorem dX7_cost_9 : decode cX7_cost 9 = .ok (.ireturn, 1) := by decide +kernel
theorem dX7_cost_10 : decode cX7_cost 10 = .ok (.iconst 1, 1) := by decide +kernel
theorem dX7_cost_11 : decode cX7_cost 11 = .ok (.aload_n 0, 1) := by decide +kernel
theorem dX7_cost_12 : decode cX7_cost 12 = .ok (.getfield 60, 3) := by decide +kernel
theorem dX7_cost_15 : decode cX7_cost 15 = .ok (.ishl, 1) := by decide +kernel
theorem dX7_cost_16 : decode cX7_cost 16 = .ok (.iconst 1, 1) := by decide +kernel
theorem dX7_cost_17 : decode cX7_cost 17 = .ok (.isub, 1) := by decide +kernel
theorem dX7_cost_18 : decode cX7_cost 18 = .ok (.iconst 1, 1) := by decide +kernel
theorem dX7_cost_19 : decode cX7_cost 19 = .ok (.iload_n 1, 1) := by decide +kernel
theorem dX7_cost_20 : decode cX7_cost 20 = .ok (.ishl, 1) := by decide +kernel
theorem dX7_cost_21 : decode cX7_cost 21 = .ok (.iconst (-1), 1) := by decide +kernel
theorem dX7_cost_22 : decode cX7_cost 22 = .ok (.ixor, 1) := by decide +kernel
theorem dX7_cost_23 : decode cX7_cost 23 = .ok (.iand, 1) := by decide +kernel
theorem dX7_cost_24 : decode cX7_cost 24 = .ok (.istore_n 2, 1) := by decide +kernel
theorem dX7_cost_25 : decode cX7_cost 25 = .ok (.aload_n 0, 1) := by decide +kernel
theorem dX7_cost_26 : decode cX7_cost 26 = .ok (.getfield 37, 3) := by decide +kernel
theorem dX7_cost_29 : decode cX7_cost 29 = .ok (.getfield 56, 3) := by decide +kernel
theorem dX7_cost_32 : decode cX7_cost 32 = .ok (.iload_n 1, 1) := by decide +kernel
theorem dX7_cost_33 : decode cX7_cost 33 = .ok (.iaload, 1) := by decide +kernel
theorem dX7_cost_34 : decode cX7_cost 34 = .ok (.aload_n 0, 1) := by decide +kernel
theorem dX7_cost_35 : decode cX7_cost 35 = .ok (.iload_n 2, 1) := by decide +kernel
theorem dX7_cost_36 : decode cX7_cost 36 = .ok (.invokestatic 63, 3) := by decide +kernel
theorem dX7_cost_39 : decode cX7_cost 39 = .ok (.iconst (-1), 1) := by decide +kernel
theorem dX7_cost_40 : decode cX7_cost 40 = .ok (.ixor, 1) := by decide +kernel
theorem dX7_cost_41 : decode cX7_cost 41 = .ok (.iand, 1) := by decide +kernel
theorem dX7_cost_42 : decode cX7_cost 42 = .ok (.invokestatic 18, 3) := by decide +kernel
theorem dX7_cost_45 : decode cX7_cost 45 = .ok (.ireturn, 1) := by decide +kernel
theorem dX7_dearest_0 : decode cX7_dearest 0 = .ok (.iconst (-1), 1) := by decide +kernel
theorem dX7_dearest_1 : decode cX7_dearest 1 = .ok (.istore_n 1, 1) := by decide +kernel
theorem dX7_dearest_2 : decode cX7_dearest 2 = .ok (.iconst (-1), 1) := by decide +kernel
theorem dX7_dearest_3 : decode cX7_dearest 3 = .ok (.istore_n 2, 1) := by decide +kernel
theorem dX7_dearest_4 : decode cX7_dearest 4 = .ok (.iconst 0, 1) := by decide +kernel
theorem dX7_dearest_5 : decode cX7_dearest 5 = .ok (.istore_n 3, 1) := by decide +kernel
theorem dX7_dearest_6 : decode cX7_dearest 6 = .ok (.iload_n 3, 1) := by decide +kernel
theorem dX7_dearest_7 : decode cX7_dearest 7 = .ok (.aload_n 0, 1) := by decide +kernel
theorem dX7_dearest_8 : decode cX7_dearest 8 = .ok (.getfield 60, 3) := by decide +kernel
theorem dX7_dearest_11 : decode cX7_dearest 11 = .ok (.if_icmp .ge 27, 3) := by decide +kernel
theorem dX7_dearest_14 : decode cX7_dearest 14 = .ok (.aload_n 0, 1) := by decide +kernel
theorem dX7_dearest_15 : decode cX7_dearest 15 = .ok (.iload_n 3, 1) := by decide +kernel
theorem dX7_dearest_16 : decode cX7_dearest 16 = .ok (.invokestatic 71, 3) := by decide +kernel
theorem dX7_dearest_19 : decode cX7_dearest 19 = .ok (.istore 4, 2) := by decide +kernel
theorem dX7_dearest_21 : decode cX7_dearest 21 = .ok (.iload 4, 2) := by decide +kernel
theorem dX7_dearest_23 : decode cX7_dearest 23 = .ok (.iload_n 2, 1) := by decide +kernel
theorem dX7_dearest_24 : decode cX7_dearest 24 = .ok (.if_icmp .le 8, 3) := by decide +kernel
theorem dX7_dearest_27 : decode cX7_dearest 27 = .ok (.iload 4, 2) := by decide +kernel
theorem dX7_dearest_29 : decode cX7_dearest 29 = .ok (.istore_n 2, 1) := by decide +kernel
theorem dX7_dearest_30 : decode cX7_dearest 30 = .ok (.iload_n 3, 1) := by decide +kernel
theorem dX7_dearest_31 : decode cX7_dearest 31 = .ok (.istore_n 1, 1) := by decide +kernel
theorem dX7_dearest_32 : decode cX7_dearest 32 = .ok (.iinc 3 1, 3) := by decide +kernel
theorem dX7_dearest_35 : decode cX7_dearest 35 = .ok (.goto (-29), 3) := by decide +kernel
theorem dX7_dearest_38 : decode cX7_dearest 38 = .ok (.iload_n 1, 1) := by decide +kernel
theorem dX7_dearest_39 : decode cX7_dearest 39 = .ok (.ireturn, 1) := by decide +kernel
theorem dX7_fewestMiles_0 : decode cX7_fewestMiles 0 = .ok (.aload_n 0, 1) := by decide +kernel
theorem dX7_fewestMiles_1 : decode cX7_fewestMiles 1 = .ok (.iload_n 1, 1) := by decide +kernel
theorem dX7_fewestMiles_2 : decode cX7_fewestMiles 2 = .ok (.iload_n 2, 1) := by decide +kernel
theorem dX7_fewestMiles_3 : decode cX7_fewestMiles 3 = .ok (.iconst 0, 1) := by decide +kernel
theorem dX7_fewestMiles_4 : decode cX7_fewestMiles 4 = .ok (.invokestatic 74, 3) := by decide +kernel
theorem dX7_fewestMiles_7 : decode cX7_fewestMiles 7 = .ok (.ireturn, 1) := by decide +kernel
theorem dX7_milesThrough_0 : decode cX7_milesThrough 0 = .ok (.iload_n 2, 1) := by decide +kernel
theorem dX7_milesThrough_1 : decode cX7_milesThrough 1 = .ok (.ifCond .eq 9, 3) := by decide +kernel
theorem dX7_milesThrough_4 : decode cX7_milesThrough 4 = .ok (.iload_n 3, 1) := by decide +kernel
theorem dX7_milesThrough_5 : decode cX7_milesThrough 5 = .ok (.bipush 6, 2) := by decide +kernel
theorem dX7_milesThrough_7 : decode cX7_milesThrough 7 = .ok (.if_icmp .lt 5, 3) := by decide +kernel
theorem dX7_milesThrough_10 : decode cX7_milesThrough 10 = .ok (.iconst 0, 1) := by decide +kernel
theorem dX7_milesThrough_11 : decode cX7_milesThrough 11 = .ok (.ireturn, 1) := by decide +kernel
theorem dX7_milesThrough_12 : decode cX7_milesThrough 12 = .ok (.iconst (-1), 1) := by decide +kernel
theorem dX7_milesThrough_13 : decode cX7_milesThrough 13 = .ok (.istore 4, 2) := by decide +kernel
theorem dX7_milesThrough_15 : decode cX7_milesThrough 15 = .ok (.iconst 0, 1) := by decide +kernel
theorem dX7_milesThrough_16 : decode cX7_milesThrough 16 = .ok (.istore 5, 2) := by decide +kernel
theorem dX7_milesThrough_18 : decode cX7_milesThrough 18 = .ok (.iload 5, 2) := by decide +kernel
theorem dX7_milesThrough_20 : decode cX7_milesThrough 20 = .ok (.bipush 10, 2) := by decide +kernel
theorem dX7_milesThrough_22 : decode cX7_milesThrough 22 = .ok (.if_icmp .ge 65, 3) := by decide +kernel
theorem dX7_milesThrough_25 : decode cX7_milesThrough 25 = .ok (.iload_n 2, 1) := by decide +kernel
theorem dX7_milesThrough_26 : decode cX7_milesThrough 26 = .ok (.iload 5, 2) := by decide +kernel
theorem dX7_milesThrough_28 : decode cX7_milesThrough 28 = .ok (.invokestatic 67, 3) := by decide +kernel
theorem dX7_milesThrough_31 : decode cX7_milesThrough 31 = .ok (.ifCond .eq 50, 3) := by decide +kernel
theorem dX7_milesThrough_34 : decode cX7_milesThrough 34 = .ok (.aload_n 0, 1) := by decide +kernel
theorem dX7_milesThrough_35 : decode cX7_milesThrough 35 = .ok (.iload_n 1, 1) := by decide +kernel
theorem dX7_milesThrough_36 : decode cX7_milesThrough 36 = .ok (.iload 5, 2) := by decide +kernel
theorem dX7_milesThrough_38 : decode cX7_milesThrough 38 = .ok (.invokevirtual 77, 3) := by decide +kernel
theorem dX7_milesThrough_41 : decode cX7_milesThrough 41 = .ok (.aload_n 0, 1) := by decide +kernel
theorem dX7_milesThrough_42 : decode cX7_milesThrough 42 = .ok (.iload 5, 2) := by decide +kernel
theorem dX7_milesThrough_44 : decode cX7_milesThrough 44 = .ok (.iload_n 2, 1) := by decide +kernel
theorem dX7_milesThrough_45 : decode cX7_milesThrough 45 = .ok (.iconst 1, 1) := by decide +kernel
theorem dX7_milesThrough_46 : decode cX7_milesThrough 46 = .ok (.iload 5, 2) := by decide +kernel
theorem dX7_milesThrough_48 : decode cX7_milesThrough 48 = .ok (.ishl, 1) := by decide +kernel
theorem dX7_milesThrough_49 : decode cX7_milesThrough 49 = .ok (.iconst (-1), 1) := by decide +kernel
theorem dX7_milesThrough_50 : decode cX7_milesThrough 50 = .ok (.ixor, 1) := by decide +kernel
theorem dX7_milesThrough_51 : decode cX7_milesThrough 51 = .ok (.iand, 1) := by decide +kernel
theorem dX7_milesThrough_52 : decode cX7_milesThrough 52 = .ok (.iload_n 3, 1) := by decide +kernel
theorem dX7_milesThrough_53 : decode cX7_milesThrough 53 = .ok (.iconst 1, 1) := by decide +kernel
theorem dX7_milesThrough_54 : decode cX7_milesThrough 54 = .ok (.iadd, 1) := by decide +kernel
theorem dX7_milesThrough_55 : decode cX7_milesThrough 55 = .ok (.invokestatic 74, 3) := by decide +kernel
theorem dX7_milesThrough_58 : decode cX7_milesThrough 58 = .ok (.iadd, 1) := by decide +kernel
theorem dX7_milesThrough_59 : decode cX7_milesThrough 59 = .ok (.istore 6, 2) := by decide +kernel
theorem dX7_milesThrough_61 : decode cX7_milesThrough 61 = .ok (.iload 4, 2) := by decide +kernel
theorem dX7_milesThrough_63 : decode cX7_milesThrough 63 = .ok (.iconst (-1), 1) := by decide +kernel
theorem dX7_milesThrough_64 : decode cX7_milesThrough 64 = .ok (.if_icmp .ne 8, 3) := by decide +kernel
theorem dX7_milesThrough_67 : decode cX7_milesThrough 67 = .ok (.iload 6, 2) := by decide +kernel
theorem dX7_milesThrough_69 : decode cX7_milesThrough 69 = .ok (.goto 10, 3) := by decide +kernel
theorem dX7_milesThrough_72 : decode cX7_milesThrough 72 = .ok (.iload 4, 2) := by decide +kernel
theorem dX7_milesThrough_74 : decode cX7_milesThrough 74 = .ok (.iload 6, 2) := by decide +kernel
theorem dX7_milesThrough_76 : decode cX7_milesThrough 76 = .ok (.invokestatic 81, 3) := by decide +kernel
theorem dX7_milesThrough_79 : decode cX7_milesThrough 79 = .ok (.istore 4, 2) := by decide +kernel
theorem dX7_milesThrough_81 : decode cX7_milesThrough 81 = .ok (.iinc 5 1, 3) := by decide +kernel
theorem dX7_milesThrough_84 : decode cX7_milesThrough 84 = .ok (.goto (-66), 3) := by decide +kernel
theorem dX7_milesThrough_87 : decode cX7_milesThrough 87 = .ok (.iload 4, 2) := by decide +kernel
theorem dX7_milesThrough_89 : decode cX7_milesThrough 89 = .ok (.ireturn, 1) := by decide +kernel
theorem dX7_placeOnRound_0 : decode cX7_placeOnRound 0 = .ok (.iload_n 1, 1) := by decide +kernel
theorem dX7_placeOnRound_1 : decode cX7_placeOnRound 1 = .ok (.istore 4, 2) := by decide +kernel
theorem dX7_placeOnRound_3 : decode cX7_placeOnRound 3 = .ok (.iload_n 2, 1) := by decide +kernel
theorem dX7_placeOnRound_4 : decode cX7_placeOnRound 4 = .ok (.istore 5, 2) := by decide +kernel
theorem dX7_placeOnRound_6 : decode cX7_placeOnRound 6 = .ok (.iconst 0, 1) := by decide +kernel
theorem dX7_placeOnRound_7 : decode cX7_placeOnRound 7 = .ok (.istore 6, 2) := by decide +kernel
theorem dX7_placeOnRound_9 : decode cX7_placeOnRound 9 = .ok (.iload 6, 2) := by decide +kernel
theorem dX7_placeOnRound_11 : decode cX7_placeOnRound 11 = .ok (.iload_n 3, 1) := by decide +kernel
theorem dX7_placeOnRound_12 : decode cX7_placeOnRound 12 = .ok (.if_icmp .gt 54, 3) := by decide +kernel
theorem dX7_placeOnRound_15 : decode cX7_placeOnRound 15 = .ok (.iload 6, 2) := by decide +kernel
theorem dX7_placeOnRound_17 : decode cX7_placeOnRound 17 = .ok (.bipush 6, 2) := by decide +kernel
theorem dX7_placeOnRound_19 : decode cX7_placeOnRound 19 = .ok (.if_icmp .ge 47, 3) := by decide +kernel
theorem dX7_placeOnRound_22 : decode cX7_placeOnRound 22 = .ok (.iload 5, 2) := by decide +kernel
theorem dX7_placeOnRound_24 : decode cX7_placeOnRound 24 = .ok (.ifCond .eq 42, 3) := by decide +kernel
theorem dX7_placeOnRound_27 : decode cX7_placeOnRound 27 = .ok (.aload_n 0, 1) := by decide +kernel
theorem dX7_placeOnRound_28 : decode cX7_placeOnRound 28 = .ok (.iload 4, 2) := by decide +kernel
theorem dX7_placeOnRound_30 : decode cX7_placeOnRound 30 = .ok (.iload 5, 2) := by decide +kernel
theorem dX7_placeOnRound_32 : decode cX7_placeOnRound 32 = .ok (.invokestatic 86, 3) := by decide +kernel
theorem dX7_placeOnRound_35 : decode cX7_placeOnRound 35 = .ok (.istore 7, 2) := by decide +kernel
theorem dX7_placeOnRound_37 : decode cX7_placeOnRound 37 = .ok (.iload 7, 2) := by decide +kernel
theorem dX7_placeOnRound_39 : decode cX7_placeOnRound 39 = .ok (.iconst (-1), 1) := by decide +kernel
theorem dX7_placeOnRound_40 : decode cX7_placeOnRound 40 = .ok (.if_icmp .ne 5, 3) := by decide +kernel
theorem dX7_placeOnRound_43 : decode cX7_placeOnRound 43 = .ok (.iconst (-1), 1) := by decide +kernel
theorem dX7_placeOnRound_44 : decode cX7_placeOnRound 44 = .ok (.ireturn, 1) := by decide +kernel
theorem dX7_placeOnRound_45 : decode cX7_placeOnRound 45 = .ok (.iload 7, 2) := by decide +kernel
theorem dX7_placeOnRound_47 : decode cX7_placeOnRound 47 = .ok (.istore 4, 2) := by decide +kernel
theorem dX7_placeOnRound_49 : decode cX7_placeOnRound 49 = .ok (.iload 5, 2) := by decide +kernel
theorem dX7_placeOnRound_51 : decode cX7_placeOnRound 51 = .ok (.iconst 1, 1) := by decide +kernel
theorem dX7_placeOnRound_52 : decode cX7_placeOnRound 52 = .ok (.iload 7, 2) := by decide +kernel
theorem dX7_placeOnRound_54 : decode cX7_placeOnRound 54 = .ok (.ishl, 1) := by decide +kernel
theorem dX7_placeOnRound_55 : decode cX7_placeOnRound 55 = .ok (.iconst (-1), 1) := by decide +kernel
theorem dX7_placeOnRound_56 : decode cX7_placeOnRound 56 = .ok (.ixor, 1) := by decide +kernel
theorem dX7_placeOnRound_57 : decode cX7_placeOnRound 57 = .ok (.iand, 1) := by decide +kernel
theorem dX7_placeOnRound_58 : decode cX7_placeOnRound 58 = .ok (.istore 5, 2) := by decide +kernel
theorem dX7_placeOnRound_60 : decode cX7_placeOnRound 60 = .ok (.iinc 6 1, 3) := by decide +kernel
theorem dX7_placeOnRound_63 : decode cX7_placeOnRound 63 = .ok (.goto (-54), 3) := by decide +kernel
theorem dX7_placeOnRound_66 : decode cX7_placeOnRound 66 = .ok (.iload 4, 2) := by decide +kernel
theorem dX7_placeOnRound_68 : decode cX7_placeOnRound 68 = .ok (.ireturn, 1) := by decide +kernel
theorem dX7_firstOnRound_0 : decode cX7_firstOnRound 0 = .ok (.aload_n 0, 1) := by decide +kernel
theorem dX7_firstOnRound_1 : decode cX7_firstOnRound 1 = .ok (.iload_n 1, 1) := by decide +kernel
theorem dX7_firstOnRound_2 : decode cX7_firstOnRound 2 = .ok (.iload_n 2, 1) := by decide +kernel
theorem dX7_firstOnRound_3 : decode cX7_firstOnRound 3 = .ok (.iconst 0, 1) := by decide +kernel
theorem dX7_firstOnRound_4 : decode cX7_firstOnRound 4 = .ok (.invokestatic 74, 3) := by decide +kernel
theorem dX7_firstOnRound_7 : decode cX7_firstOnRound 7 = .ok (.istore_n 3, 1) := by decide +kernel
theorem dX7_firstOnRound_8 : decode cX7_firstOnRound 8 = .ok (.iconst 0, 1) := by decide +kernel
theorem dX7_firstOnRound_9 : decode cX7_firstOnRound 9 = .ok (.istore 4, 2) := by decide +kernel
theorem dX7_firstOnRound_11 : decode cX7_firstOnRound 11 = .ok (.iload 4, 2) := by decide +kernel
theorem dX7_firstOnRound_13 : decode cX7_firstOnRound 13 = .ok (.bipush 10, 2) := by decide +kernel
theorem dX7_firstOnRound_15 : decode cX7_firstOnRound 15 = .ok (.if_icmp .ge 48, 3) := by decide +kernel
theorem dX7_firstOnRound_18 : decode cX7_firstOnRound 18 = .ok (.iload_n 2, 1) := by decide +kernel
theorem dX7_firstOnRound_19 : decode cX7_firstOnRound 19 = .ok (.iload 4, 2) := by decide +kernel
theorem dX7_firstOnRound_21 : decode cX7_firstOnRound 21 = .ok (.invokestatic 67, 3) := by decide +kernel
theorem dX7_firstOnRound_24 : decode cX7_firstOnRound 24 = .ok (.ifCond .eq 33, 3) := by decide +kernel
theorem dX7_firstOnRound_27 : decode cX7_firstOnRound 27 = .ok (.aload_n 0, 1) := by decide +kernel
theorem dX7_firstOnRound_28 : decode cX7_firstOnRound 28 = .ok (.iload_n 1, 1) := by decide +kernel
theorem dX7_firstOnRound_29 : decode cX7_firstOnRound 29 = .ok (.iload 4, 2) := by decide +kernel
theorem dX7_firstOnRound_31 : decode cX7_firstOnRound 31 = .ok (.invokevirtual 77, 3) := by decide +kernel
theorem dX7_firstOnRound_34 : decode cX7_firstOnRound 34 = .ok (.aload_n 0, 1) := by decide +kernel
theorem dX7_firstOnRound_35 : decode cX7_firstOnRound 35 = .ok (.iload 4, 2) := by decide +kernel
theorem dX7_firstOnRound_37 : decode cX7_firstOnRound 37 = .ok (.iload_n 2, 1) := by decide +kernel
theorem dX7_firstOnRound_38 : decode cX7_firstOnRound 38 = .ok (.iconst 1, 1) := by decide +kernel
theorem dX7_firstOnRound_39 : decode cX7_firstOnRound 39 = .ok (.iload 4, 2) := by decide +kernel
theorem dX7_firstOnRound_41 : decode cX7_firstOnRound 41 = .ok (.ishl, 1) := by decide +kernel
theorem dX7_firstOnRound_42 : decode cX7_firstOnRound 42 = .ok (.iconst (-1), 1) := by decide +kernel
theorem dX7_firstOnRound_43 : decode cX7_firstOnRound 43 = .ok (.ixor, 1) := by decide +kernel
theorem dX7_firstOnRound_44 : decode cX7_firstOnRound 44 = .ok (.iand, 1) := by decide +kernel
theorem dX7_firstOnRound_45 : decode cX7_firstOnRound 45 = .ok (.iconst 0, 1) := by decide +kernel
theorem dX7_firstOnRound_46 : decode cX7_firstOnRound 46 = .ok (.invokestatic 74, 3) := by decide +kernel
theorem dX7_firstOnRound_49 : decode cX7_firstOnRound 49 = .ok (.iadd, 1) := by decide +kernel
theorem dX7_firstOnRound_50 : decode cX7_firstOnRound 50 = .ok (.iload_n 3, 1) := by decide +kernel
theorem dX7_firstOnRound_51 : decode cX7_firstOnRound 51 = .ok (.if_icmp .ne 6, 3) := by decide +kernel
theorem dX7_firstOnRound_54 : decode cX7_firstOnRound 54 = .ok (.iload 4, 2) := by decide +kernel
theorem dX7_firstOnRound_56 : decode cX7_firstOnRound 56 = .ok (.ireturn, 1) := by decide +kernel
theorem dX7_firstOnRound_57 : decode cX7_firstOnRound 57 = .ok (.iinc 4 1, 3) := by decide +kernel
theorem dX7_firstOnRound_60 : decode cX7_firstOnRound 60 = .ok (.goto (-49), 3) := by decide +kernel
theorem dX7_firstOnRound_63 : decode cX7_firstOnRound 63 = .ok (.iconst (-1), 1) := by decide +kernel
theorem dX7_firstOnRound_64 : decode cX7_firstOnRound 64 = .ok (.ireturn, 1) := by decide +kernel
theorem dX7_longestUnsaid_0 : decode cX7_longestUnsaid 0 = .ok (.iconst 0, 1) := by decide +kernel
theorem dX7_longestUnsaid_1 : decode cX7_longestUnsaid 1 = .ok (.istore_n 3, 1) := by decide +kernel
theorem dX7_longestUnsaid_2 : decode cX7_longestUnsaid 2 = .ok (.iconst 0, 1) := by decide +kernel
theorem dX7_longestUnsaid_3 : decode cX7_longestUnsaid 3 = .ok (.istore 4, 2) := by decide +kernel
theorem dX7_longestUnsaid_5 : decode cX7_longestUnsaid 5 = .ok (.iload 4, 2) := by decide +kernel
theorem dX7_longestUnsaid_7 : decode cX7_longestUnsaid 7 = .ok (.iload_n 2, 1) := by decide +kernel
theorem dX7_longestUnsaid_8 : decode cX7_longestUnsaid 8 = .ok (.if_icmp .ge 35, 3) := by decide +kernel
theorem dX7_longestUnsaid_11 : decode cX7_longestUnsaid 11 = .ok (.aload_n 0, 1) := by decide +kernel
theorem dX7_longestUnsaid_12 : decode cX7_longestUnsaid 12 = .ok (.iload_n 1, 1) := by decide +kernel
theorem dX7_longestUnsaid_13 : decode cX7_longestUnsaid 13 = .ok (.iload_n 3, 1) := by decide +kernel
theorem dX7_longestUnsaid_14 : decode cX7_longestUnsaid 14 = .ok (.iconst (-1), 1) := by decide +kernel
theorem dX7_longestUnsaid_15 : decode cX7_longestUnsaid 15 = .ok (.ixor, 1) := by decide +kernel
theorem dX7_longestUnsaid_16 : decode cX7_longestUnsaid 16 = .ok (.iand, 1) := by decide +kernel
theorem dX7_longestUnsaid_17 : decode cX7_longestUnsaid 17 = .ok (.invokevirtual 90, 3) := by decide +kernel
theorem dX7_longestUnsaid_20 : decode cX7_longestUnsaid 20 = .ok (.istore 5, 2) := by decide +kernel
theorem dX7_longestUnsaid_22 : decode cX7_longestUnsaid 22 = .ok (.iload 5, 2) := by decide +kernel
theorem dX7_longestUnsaid_24 : decode cX7_longestUnsaid 24 = .ok (.iconst (-1), 1) := by decide +kernel
theorem dX7_longestUnsaid_25 : decode cX7_longestUnsaid 25 = .ok (.if_icmp .ne 5, 3) := by decide +kernel
theorem dX7_longestUnsaid_28 : decode cX7_longestUnsaid 28 = .ok (.iload_n 3, 1) := by decide +kernel
theorem dX7_longestUnsaid_29 : decode cX7_longestUnsaid 29 = .ok (.ireturn, 1) := by decide +kernel
theorem dX7_longestUnsaid_30 : decode cX7_longestUnsaid 30 = .ok (.iload_n 3, 1) := by decide +kernel
theorem dX7_longestUnsaid_31 : decode cX7_longestUnsaid 31 = .ok (.iconst 1, 1) := by decide +kernel
theorem dX7_longestUnsaid_32 : decode cX7_longestUnsaid 32 = .ok (.iload 5, 2) := by decide +kernel
theorem dX7_longestUnsaid_34 : decode cX7_longestUnsaid 34 = .ok (.ishl, 1) := by decide +kernel
theorem dX7_longestUnsaid_35 : decode cX7_longestUnsaid 35 = .ok (.ior, 1) := by decide +kernel
theorem dX7_longestUnsaid_36 : decode cX7_longestUnsaid 36 = .ok (.istore_n 3, 1) := by decide +kernel
theorem dX7_longestUnsaid_37 : decode cX7_longestUnsaid 37 = .ok (.iinc 4 1, 3) := by decide +kernel
theorem dX7_longestUnsaid_40 : decode cX7_longestUnsaid 40 = .ok (.goto (-35), 3) := by decide +kernel
theorem dX7_longestUnsaid_43 : decode cX7_longestUnsaid 43 = .ok (.iload_n 3, 1) := by decide +kernel
theorem dX7_longestUnsaid_44 : decode cX7_longestUnsaid 44 = .ok (.ireturn, 1) := by decide +kernel
theorem dX7_unsaidTogether_0 : decode cX7_unsaidTogether 0 = .ok (.iconst 0, 1) := by decide +kernel
theorem dX7_unsaidTogether_1 : decode cX7_unsaidTogether 1 = .ok (.istore_n 2, 1) := by decide +kernel
theorem dX7_unsaidTogether_2 : decode cX7_unsaidTogether 2 = .ok (.iconst 0, 1) := by decide +kernel
theorem dX7_unsaidTogether_3 : decode cX7_unsaidTogether 3 = .ok (.istore_n 3, 1) := by decide +kernel
theorem dX7_unsaidTogether_4 : decode cX7_unsaidTogether 4 = .ok (.iload_n 3, 1) := by decide +kernel
theorem dX7_unsaidTogether_5 : decode cX7_unsaidTogether 5 = .ok (.aload_n 0, 1) := by decide +kernel
theorem dX7_unsaidTogether_6 : decode cX7_unsaidTogether 6 = .ok (.getfield 93, 3) := by decide +kernel
theorem dX7_unsaidTogether_9 : decode cX7_unsaidTogether 9 = .ok (.if_icmp .ge 29, 3) := by decide +kernel
theorem dX7_unsaidTogether_12 : decode cX7_unsaidTogether 12 = .ok (.iload_n 1, 1) := by decide +kernel
theorem dX7_unsaidTogether_13 : decode cX7_unsaidTogether 13 = .ok (.iload_n 3, 1) := by decide +kernel
theorem dX7_unsaidTogether_14 : decode cX7_unsaidTogether 14 = .ok (.invokestatic 67, 3) := by decide +kernel
theorem dX7_unsaidTogether_17 : decode cX7_unsaidTogether 17 = .ok (.ifCond .eq 15, 3) := by decide +kernel
theorem dX7_unsaidTogether_20 : decode cX7_unsaidTogether 20 = .ok (.iload_n 2, 1) := by decide +kernel
theorem dX7_unsaidTogether_21 : decode cX7_unsaidTogether 21 = .ok (.aload_n 0, 1) := by decide +kernel
theorem dX7_unsaidTogether_22 : decode cX7_unsaidTogether 22 = .ok (.getfield 37, 3) := by decide +kernel
theorem dX7_unsaidTogether_25 : decode cX7_unsaidTogether 25 = .ok (.getfield 96, 3) := by decide +kernel
theorem dX7_unsaidTogether_28 : decode cX7_unsaidTogether 28 = .ok (.iload_n 3, 1) := by decide +kernel
theorem dX7_unsaidTogether_29 : decode cX7_unsaidTogether 29 = .ok (.iaload, 1) := by decide +kernel
theorem dX7_unsaidTogether_30 : decode cX7_unsaidTogether 30 = .ok (.iadd, 1) := by decide +kernel
theorem dX7_unsaidTogether_31 : decode cX7_unsaidTogether 31 = .ok (.istore_n 2, 1) := by decide +kernel
theorem dX7_unsaidTogether_32 : decode cX7_unsaidTogether 32 = .ok (.iinc 3 1, 3) := by decide +kernel
theorem dX7_unsaidTogether_35 : decode cX7_unsaidTogether 35 = .ok (.goto (-31), 3) := by decide +kernel
theorem dX7_unsaidTogether_38 : decode cX7_unsaidTogether 38 = .ok (.iload_n 2, 1) := by decide +kernel
theorem dX7_unsaidTogether_39 : decode cX7_unsaidTogether 39 = .ok (.ireturn, 1) := by decide +kernel
theorem dX7_longTogether_0 : decode cX7_longTogether 0 = .ok (.iconst 0, 1) := by decide +kernel
theorem dX7_longTogether_1 : decode cX7_longTogether 1 = .ok (.istore_n 2, 1) := by decide +kernel
theorem dX7_longTogether_2 : decode cX7_longTogether 2 = .ok (.iconst 0, 1) := by decide +kernel
theorem dX7_longTogether_3 : decode cX7_longTogether 3 = .ok (.istore_n 3, 1) := by decide +kernel
theorem dX7_longTogether_4 : decode cX7_longTogether 4 = .ok (.iload_n 3, 1) := by decide +kernel
theorem dX7_longTogether_5 : decode cX7_longTogether 5 = .ok (.aload_n 0, 1) := by decide +kernel
theorem dX7_longTogether_6 : decode cX7_longTogether 6 = .ok (.getfield 93, 3) := by decide +kernel
theorem dX7_longTogether_9 : decode cX7_longTogether 9 = .ok (.if_icmp .ge 26, 3) := by decide +kernel
theorem dX7_longTogether_12 : decode cX7_longTogether 12 = .ok (.iload_n 1, 1) := by decide +kernel
theorem dX7_longTogether_13 : decode cX7_longTogether 13 = .ok (.iload_n 3, 1) := by decide +kernel
theorem dX7_longTogether_14 : decode cX7_longTogether 14 = .ok (.invokestatic 67, 3) := by decide +kernel
theorem dX7_longTogether_17 : decode cX7_longTogether 17 = .ok (.ifCond .eq 12, 3) := by decide +kernel
theorem dX7_longTogether_20 : decode cX7_longTogether 20 = .ok (.iload_n 2, 1) := by decide +kernel
theorem dX7_longTogether_21 : decode cX7_longTogether 21 = .ok (.aload_n 0, 1) := by decide +kernel
theorem dX7_longTogether_22 : decode cX7_longTogether 22 = .ok (.getfield 99, 3) := by decide +kernel
theorem dX7_longTogether_25 : decode cX7_longTogether 25 = .ok (.iload_n 3, 1) := by decide +kernel
theorem dX7_longTogether_26 : decode cX7_longTogether 26 = .ok (.iaload, 1) := by decide +kernel
theorem dX7_longTogether_27 : decode cX7_longTogether 27 = .ok (.iadd, 1) := by decide +kernel
theorem dX7_longTogether_28 : decode cX7_longTogether 28 = .ok (.istore_n 2, 1) := by decide +kernel
theorem dX7_longTogether_29 : decode cX7_longTogether 29 = .ok (.iinc 3 1, 3) := by decide +kernel
theorem dX7_longTogether_32 : decode cX7_longTogether 32 = .ok (.goto (-28), 3) := by decide +kernel
theorem dX7_longTogether_35 : decode cX7_longTogether 35 = .ok (.iload_n 2, 1) := by decide +kernel
theorem dX7_longTogether_36 : decode cX7_longTogether 36 = .ok (.ireturn, 1) := by decide +kernel
theorem dX7_speakers_0 : decode cX7_speakers 0 = .ok (.iconst 1, 1) := by decide +kernel
theorem dX7_speakers_1 : decode cX7_speakers 1 = .ok (.aload_n 0, 1) := by decide +kernel
theorem dX7_speakers_2 : decode cX7_speakers 2 = .ok (.getfield 60, 3) := by decide +kernel
theorem dX7_speakers_5 : decode cX7_speakers 5 = .ok (.ishl, 1) := by decide +kernel
theorem dX7_speakers_6 : decode cX7_speakers 6 = .ok (.iconst 1, 1) := by decide +kernel
theorem dX7_speakers_7 : decode cX7_speakers 7 = .ok (.isub, 1) := by decide +kernel
theorem dX7_speakers_8 : decode cX7_speakers 8 = .ok (.istore_n 1, 1) := by decide +kernel
theorem dX7_speakers_9 : decode cX7_speakers 9 = .ok (.iconst 0, 1) := by decide +kernel
theorem dX7_speakers_10 : decode cX7_speakers 10 = .ok (.istore_n 2, 1) := by decide +kernel
theorem dX7_speakers_11 : decode cX7_speakers 11 = .ok (.iload_n 2, 1) := by decide +kernel
theorem dX7_speakers_12 : decode cX7_speakers 12 = .ok (.aload_n 0, 1) := by decide +kernel
theorem dX7_speakers_13 : decode cX7_speakers 13 = .ok (.getfield 102, 3) := by decide +kernel
theorem dX7_speakers_16 : decode cX7_speakers 16 = .ok (.getfield 106, 3) := by decide +kernel
theorem dX7_speakers_19 : decode cX7_speakers 19 = .ok (.if_icmp .ge 48, 3) := by decide +kernel
theorem dX7_speakers_22 : decode cX7_speakers 22 = .ok (.iload_n 1, 1) := by decide +kernel
theorem dX7_speakers_23 : decode cX7_speakers 23 = .ok (.aload_n 0, 1) := by decide +kernel
theorem dX7_speakers_24 : decode cX7_speakers 24 = .ok (.aload_n 0, 1) := by decide +kernel
theorem dX7_speakers_25 : decode cX7_speakers 25 = .ok (.getfield 102, 3) := by decide +kernel
theorem dX7_speakers_28 : decode cX7_speakers 28 = .ok (.iload_n 2, 1) := by decide +kernel
theorem dX7_speakers_29 : decode cX7_speakers 29 = .ok (.iconst 0, 1) := by decide +kernel
theorem dX7_speakers_30 : decode cX7_speakers 30 = .ok (.invokevirtual 109, 3) := by decide +kernel
theorem dX7_speakers_33 : decode cX7_speakers 33 = .ok (.invokevirtual 112, 3) := by decide +kernel
theorem dX7_speakers_36 : decode cX7_speakers 36 = .ok (.iand, 1) := by decide +kernel
theorem dX7_speakers_37 : decode cX7_speakers 37 = .ok (.istore_n 1, 1) := by decide +kernel
theorem dX7_speakers_38 : decode cX7_speakers 38 = .ok (.aload_n 0, 1) := by decide +kernel
theorem dX7_speakers_39 : decode cX7_speakers 39 = .ok (.getfield 102, 3) := by decide +kernel
theorem dX7_speakers_42 : decode cX7_speakers 42 = .ok (.iload_n 2, 1) := by decide +kernel
theorem dX7_speakers_43 : decode cX7_speakers 43 = .ok (.iconst 1, 1) := by decide +kernel
theorem dX7_speakers_44 : decode cX7_speakers 44 = .ok (.invokevirtual 109, 3) := by decide +kernel
theorem dX7_speakers_47 : decode cX7_speakers 47 = .ok (.istore_n 3, 1) := by decide +kernel
theorem dX7_speakers_48 : decode cX7_speakers 48 = .ok (.iload_n 3, 1) := by decide +kernel
theorem dX7_speakers_49 : decode cX7_speakers 49 = .ok (.iconst (-1), 1) := by decide +kernel
theorem dX7_speakers_50 : decode cX7_speakers 50 = .ok (.if_icmp .eq 11, 3) := by decide +kernel
theorem dX7_speakers_53 : decode cX7_speakers 53 = .ok (.iload_n 1, 1) := by decide +kernel
theorem dX7_speakers_54 : decode cX7_speakers 54 = .ok (.aload_n 0, 1) := by decide +kernel
theorem dX7_speakers_55 : decode cX7_speakers 55 = .ok (.iload_n 3, 1) := by decide +kernel
theorem dX7_speakers_56 : decode cX7_speakers 56 = .ok (.invokevirtual 115, 3) := by decide +kernel
theorem dX7_speakers_59 : decode cX7_speakers 59 = .ok (.iand, 1) := by decide +kernel
theorem dX7_speakers_60 : decode cX7_speakers 60 = .ok (.istore_n 1, 1) := by decide +kernel
theorem dX7_speakers_61 : decode cX7_speakers 61 = .ok (.iinc 2 1, 3) := by decide +kernel
theorem dX7_speakers_64 : decode cX7_speakers 64 = .ok (.goto (-53), 3) := by decide +kernel
theorem dX7_speakers_67 : decode cX7_speakers 67 = .ok (.iload_n 1, 1) := by decide +kernel
theorem dX7_speakers_68 : decode cX7_speakers 68 = .ok (.ireturn, 1) := by decide +kernel
theorem dX7_wordToHear_0 : decode cX7_wordToHear 0 = .ok (.iload_n 1, 1) := by decide +kernel
theorem dX7_wordToHear_1 : decode cX7_wordToHear 1 = .ok (.invokestatic 18, 3) := by decide +kernel
theorem dX7_wordToHear_4 : decode cX7_wordToHear 4 = .ok (.istore_n 2, 1) := by decide +kernel
theorem dX7_wordToHear_5 : decode cX7_wordToHear 5 = .ok (.iload_n 2, 1) := by decide +kernel
theorem dX7_wordToHear_6 : decode cX7_wordToHear 6 = .ok (.iconst 2, 1) := by decide +kernel
theorem dX7_wordToHear_7 : decode cX7_wordToHear 7 = .ok (.if_icmp .ge 5, 3) := by decide +kernel
theorem dX7_wordToHear_10 : decode cX7_wordToHear 10 = .ok (.iconst (-1), 1) := by decide +kernel
theorem dX7_wordToHear_11 : decode cX7_wordToHear 11 = .ok (.ireturn, 1) := by decide +kernel
theorem dX7_wordToHear_12 : decode cX7_wordToHear 12 = .ok (.iconst (-1), 1) := by decide +kernel
theorem dX7_wordToHear_13 : decode cX7_wordToHear 13 = .ok (.istore_n 3, 1) := by decide +kernel
theorem dX7_wordToHear_14 : decode cX7_wordToHear 14 = .ok (.iload_n 2, 1) := by decide +kernel
theorem dX7_wordToHear_15 : decode cX7_wordToHear 15 = .ok (.iconst 1, 1) := by decide +kernel
theorem dX7_wordToHear_16 : decode cX7_wordToHear 16 = .ok (.iadd, 1) := by decide +kernel
theorem dX7_wordToHear_17 : decode cX7_wordToHear 17 = .ok (.istore 4, 2) := by decide +kernel
theorem dX7_wordToHear_19 : decode cX7_wordToHear 19 = .ok (.iconst 0, 1) := by decide +kernel
theorem dX7_wordToHear_20 : decode cX7_wordToHear 20 = .ok (.istore 5, 2) := by decide +kernel
theorem dX7_wordToHear_22 : decode cX7_wordToHear 22 = .ok (.iload 5, 2) := by decide +kernel
theorem dX7_wordToHear_24 : decode cX7_wordToHear 24 = .ok (.aload_n 0, 1) := by decide +kernel
theorem dX7_wordToHear_25 : decode cX7_wordToHear 25 = .ok (.getfield 93, 3) := by decide +kernel
theorem dX7_wordToHear_28 : decode cX7_wordToHear 28 = .ok (.if_icmp .ge 47, 3) := by decide +kernel
theorem dX7_wordToHear_31 : decode cX7_wordToHear 31 = .ok (.iload_n 1, 1) := by decide +kernel
theorem dX7_wordToHear_32 : decode cX7_wordToHear 32 = .ok (.aload_n 0, 1) := by decide +kernel
theorem dX7_wordToHear_33 : decode cX7_wordToHear 33 = .ok (.iload 5, 2) := by decide +kernel
theorem dX7_wordToHear_35 : decode cX7_wordToHear 35 = .ok (.invokevirtual 112, 3) := by decide +kernel
theorem dX7_wordToHear_38 : decode cX7_wordToHear 38 = .ok (.iand, 1) := by decide +kernel
theorem dX7_wordToHear_39 : decode cX7_wordToHear 39 = .ok (.invokestatic 18, 3) := by decide +kernel
theorem dX7_wordToHear_42 : decode cX7_wordToHear 42 = .ok (.istore 6, 2) := by decide +kernel
theorem dX7_wordToHear_44 : decode cX7_wordToHear 44 = .ok (.iload 6, 2) := by decide +kernel
theorem dX7_wordToHear_46 : decode cX7_wordToHear 46 = .ok (.iload_n 2, 1) := by decide +kernel
theorem dX7_wordToHear_47 : decode cX7_wordToHear 47 = .ok (.iload 6, 2) := by decide +kernel
theorem dX7_wordToHear_49 : decode cX7_wordToHear 49 = .ok (.isub, 1) := by decide +kernel
theorem dX7_wordToHear_50 : decode cX7_wordToHear 50 = .ok (.invokestatic 118, 3) := by decide +kernel
theorem dX7_wordToHear_53 : decode cX7_wordToHear 53 = .ok (.istore 7, 2) := by decide +kernel
theorem dX7_wordToHear_55 : decode cX7_wordToHear 55 = .ok (.iload 7, 2) := by decide +kernel
theorem dX7_wordToHear_57 : decode cX7_wordToHear 57 = .ok (.iload 4, 2) := by decide +kernel
theorem dX7_wordToHear_59 : decode cX7_wordToHear 59 = .ok (.if_icmp .ge 10, 3) := by decide +kernel
theorem dX7_wordToHear_62 : decode cX7_wordToHear 62 = .ok (.iload 7, 2) := by decide +kernel
theorem dX7_wordToHear_64 : decode cX7_wordToHear 64 = .ok (.istore 4, 2) := by decide +kernel
theorem dX7_wordToHear_66 : decode cX7_wordToHear 66 = .ok (.iload 5, 2) := by decide +kernel
theorem dX7_wordToHear_68 : decode cX7_wordToHear 68 = .ok (.istore_n 3, 1) := by decide +kernel
theorem dX7_wordToHear_69 : decode cX7_wordToHear 69 = .ok (.iinc 5 1, 3) := by decide +kernel
theorem dX7_wordToHear_72 : decode cX7_wordToHear 72 = .ok (.goto (-50), 3) := by decide +kernel
theorem dX7_wordToHear_75 : decode cX7_wordToHear 75 = .ok (.iload_n 3, 1) := by decide +kernel
theorem dX7_wordToHear_76 : decode cX7_wordToHear 76 = .ok (.ireturn, 1) := by decide +kernel
theorem dX7_understood_0 : decode cX7_understood 0 = .ok (.aload_n 0, 1) := by decide +kernel
theorem dX7_understood_1 : decode cX7_understood 1 = .ok (.iload_n 1, 1) := by decide +kernel
theorem dX7_understood_2 : decode cX7_understood 2 = .ok (.invokevirtual 52, 3) := by decide +kernel
theorem dX7_understood_5 : decode cX7_understood 5 = .ok (.ifCond .eq 11, 3) := by decide +kernel
theorem dX7_understood_8 : decode cX7_understood 8 = .ok (.aload_n 0, 1) := by decide +kernel
theorem dX7_understood_9 : decode cX7_understood 9 = .ok (.iload_n 2, 1) := by decide +kernel
theorem dX7_understood_10 : decode cX7_understood 10 = .ok (.invokevirtual 52, 3) := by decide +kernel
theorem dX7_understood_13 : decode cX7_understood 13 = .ok (.ifCond .ne 5, 3) := by decide +kernel
theorem dX7_understood_16 : decode cX7_understood 16 = .ok (.iconst 0, 1) := by decide +kernel
theorem dX7_understood_17 : decode cX7_understood 17 = .ok (.ireturn, 1) := by decide +kernel
theorem dX7_understood_18 : decode cX7_understood 18 = .ok (.aload_n 0, 1) := by decide +kernel
theorem dX7_understood_19 : decode cX7_understood 19 = .ok (.getfield 37, 3) := by decide +kernel
theorem dX7_understood_22 : decode cX7_understood 22 = .ok (.getfield 56, 3) := by decide +kernel
theorem dX7_understood_25 : decode cX7_understood 25 = .ok (.iload_n 1, 1) := by decide +kernel
theorem dX7_understood_26 : decode cX7_understood 26 = .ok (.iaload, 1) := by decide +kernel
theorem dX7_understood_27 : decode cX7_understood 27 = .ok (.aload_n 0, 1) := by decide +kernel
theorem dX7_understood_28 : decode cX7_understood 28 = .ok (.getfield 37, 3) := by decide +kernel
theorem dX7_understood_31 : decode cX7_understood 31 = .ok (.getfield 56, 3) := by decide +kernel
theorem dX7_understood_34 : decode cX7_understood 34 = .ok (.iload_n 2, 1) := by decide +kernel
theorem dX7_understood_35 : decode cX7_understood 35 = .ok (.iaload, 1) := by decide +kernel
theorem dX7_understood_36 : decode cX7_understood 36 = .ok (.iand, 1) := by decide +kernel
theorem dX7_understood_37 : decode cX7_understood 37 = .ok (.istore_n 3, 1) := by decide +kernel
theorem dX7_understood_38 : decode cX7_understood 38 = .ok (.aload_n 0, 1) := by decide +kernel
theorem dX7_understood_39 : decode cX7_understood 39 = .ok (.getfield 24, 3) := by decide +kernel
theorem dX7_understood_42 : decode cX7_understood 42 = .ok (.iload_n 3, 1) := by decide +kernel
theorem dX7_understood_43 : decode cX7_understood 43 = .ok (.invokevirtual 28, 3) := by decide +kernel
theorem dX7_understood_46 : decode cX7_understood 46 = .ok (.invokestatic 18, 3) := by decide +kernel
theorem dX7_understood_49 : decode cX7_understood 49 = .ok (.ireturn, 1) := by decide +kernel
theorem dX7_circleAround_0 : decode cX7_circleAround 0 = .ok (.iconst 1, 1) := by decide +kernel
theorem dX7_circleAround_1 : decode cX7_circleAround 1 = .ok (.iload_n 1, 1) := by decide +kernel
theorem dX7_circleAround_2 : decode cX7_circleAround 2 = .ok (.ishl, 1) := by decide +kernel
theorem dX7_circleAround_3 : decode cX7_circleAround 3 = .ok (.istore_n 2, 1) := by decide +kernel
theorem dX7_circleAround_4 : decode cX7_circleAround 4 = .ok (.iconst 0, 1) := by decide +kernel
theorem dX7_circleAround_5 : decode cX7_circleAround 5 = .ok (.istore_n 3, 1) := by decide +kernel
theorem dX7_circleAround_6 : decode cX7_circleAround 6 = .ok (.iload_n 3, 1) := by decide +kernel
theorem dX7_circleAround_7 : decode cX7_circleAround 7 = .ok (.aload_n 0, 1) := by decide +kernel
theorem dX7_circleAround_8 : decode cX7_circleAround 8 = .ok (.getfield 60, 3) := by decide +kernel
theorem dX7_circleAround_11 : decode cX7_circleAround 11 = .ok (.if_icmp .ge 15, 3) := by decide +kernel
theorem dX7_circleAround_14 : decode cX7_circleAround 14 = .ok (.aload_n 0, 1) := by decide +kernel
theorem dX7_circleAround_15 : decode cX7_circleAround 15 = .ok (.iload_n 2, 1) := by decide +kernel
theorem dX7_circleAround_16 : decode cX7_circleAround 16 = .ok (.invokestatic 121, 3) := by decide +kernel
theorem dX7_circleAround_19 : decode cX7_circleAround 19 = .ok (.istore_n 2, 1) := by decide +kernel
theorem dX7_circleAround_20 : decode cX7_circleAround 20 = .ok (.iinc 3 1, 3) := by decide +kernel
theorem dX7_circleAround_23 : decode cX7_circleAround 23 = .ok (.goto (-17), 3) := by decide +kernel
theorem dX7_circleAround_26 : decode cX7_circleAround 26 = .ok (.iload_n 2, 1) := by decide +kernel
theorem dX7_circleAround_27 : decode cX7_circleAround 27 = .ok (.ireturn, 1) := by decide +kernel
theorem dX7_widened_0 : decode cX7_widened 0 = .ok (.iload_n 1, 1) := by decide +kernel
theorem dX7_widened_1 : decode cX7_widened 1 = .ok (.istore_n 2, 1) := by decide +kernel
theorem dX7_widened_2 : decode cX7_widened 2 = .ok (.iconst 0, 1) := by decide +kernel
theorem dX7_widened_3 : decode cX7_widened 3 = .ok (.istore_n 3, 1) := by decide +kernel
theorem dX7_widened_4 : decode cX7_widened 4 = .ok (.iload_n 3, 1) := by decide +kernel
theorem dX7_widened_5 : decode cX7_widened 5 = .ok (.aload_n 0, 1) := by decide +kernel
theorem dX7_widened_6 : decode cX7_widened 6 = .ok (.getfield 60, 3) := by decide +kernel
theorem dX7_widened_9 : decode cX7_widened 9 = .ok (.if_icmp .ge 52, 3) := by decide +kernel
theorem dX7_widened_12 : decode cX7_widened 12 = .ok (.iconst 0, 1) := by decide +kernel
theorem dX7_widened_13 : decode cX7_widened 13 = .ok (.istore 4, 2) := by decide +kernel
theorem dX7_widened_15 : decode cX7_widened 15 = .ok (.iload 4, 2) := by decide +kernel
theorem dX7_widened_17 : decode cX7_widened 17 = .ok (.aload_n 0, 1) := by decide +kernel
theorem dX7_widened_18 : decode cX7_widened 18 = .ok (.getfield 60, 3) := by decide +kernel
theorem dX7_widened_21 : decode cX7_widened 21 = .ok (.if_icmp .ge 34, 3) := by decide +kernel
theorem dX7_widened_24 : decode cX7_widened 24 = .ok (.iload_n 1, 1) := by decide +kernel
theorem dX7_widened_25 : decode cX7_widened 25 = .ok (.iload_n 3, 1) := by decide +kernel
theorem dX7_widened_26 : decode cX7_widened 26 = .ok (.invokestatic 67, 3) := by decide +kernel
theorem dX7_widened_29 : decode cX7_widened 29 = .ok (.ifCond .eq 26, 3) := by decide +kernel
theorem dX7_widened_32 : decode cX7_widened 32 = .ok (.aload_n 0, 1) := by decide +kernel
theorem dX7_widened_33 : decode cX7_widened 33 = .ok (.iload_n 3, 1) := by decide +kernel
theorem dX7_widened_34 : decode cX7_widened 34 = .ok (.iload 4, 2) := by decide +kernel
theorem dX7_widened_36 : decode cX7_widened 36 = .ok (.invokestatic 124, 3) := by decide +kernel
theorem dX7_widened_39 : decode cX7_widened 39 = .ok (.ifCond .le 10, 3) := by decide +kernel
theorem dX7_widened_42 : decode cX7_widened 42 = .ok (.iload_n 2, 1) := by decide +kernel
theorem dX7_widened_43 : decode cX7_widened 43 = .ok (.iconst 1, 1) := by decide +kernel
theorem dX7_widened_44 : decode cX7_widened 44 = .ok (.iload 4, 2) := by decide +kernel
theorem dX7_widened_46 : decode cX7_widened 46 = .ok (.ishl, 1) := by decide +kernel
theorem dX7_widened_47 : decode cX7_widened 47 = .ok (.ior, 1) := by decide +kernel
theorem dX7_widened_48 : decode cX7_widened 48 = .ok (.istore_n 2, 1) := by decide +kernel
theorem dX7_widened_49 : decode cX7_widened 49 = .ok (.iinc 4 1, 3) := by decide +kernel
theorem dX7_widened_52 : decode cX7_widened 52 = .ok (.goto (-37), 3) := by decide +kernel
theorem dX7_widened_55 : decode cX7_widened 55 = .ok (.iinc 3 1, 3) := by decide +kernel
theorem dX7_widened_58 : decode cX7_widened 58 = .ok (.goto (-54), 3) := by decide +kernel
theorem dX7_widened_61 : decode cX7_widened 61 = .ok (.iload_n 2, 1) := by decide +kernel
theorem dX7_widened_62 : decode cX7_widened 62 = .ok (.ireturn, 1) := by decide +kernel
theorem dX7_longestVerse_0 : decode cX7_longestVerse 0 = .ok (.aload_n 0, 1) := by decide +kernel
theorem dX7_longestVerse_1 : decode cX7_longestVerse 1 = .ok (.invokevirtual 9, 3) := by decide +kernel
theorem dX7_longestVerse_4 : decode cX7_longestVerse 4 = .ok (.istore_n 1, 1) := by decide +kernel
theorem dX7_longestVerse_5 : decode cX7_longestVerse 5 = .ok (.iconst 0, 1) := by decide +kernel
theorem dX7_longestVerse_6 : decode cX7_longestVerse 6 = .ok (.istore_n 2, 1) := by decide +kernel
theorem dX7_longestVerse_7 : decode cX7_longestVerse 7 = .ok (.iconst 0, 1) := by decide +kernel
theorem dX7_longestVerse_8 : decode cX7_longestVerse 8 = .ok (.istore_n 3, 1) := by decide +kernel
theorem dX7_longestVerse_9 : decode cX7_longestVerse 9 = .ok (.iconst 1, 1) := by decide +kernel
theorem dX7_longestVerse_10 : decode cX7_longestVerse 10 = .ok (.istore 4, 2) := by decide +kernel
theorem dX7_longestVerse_12 : decode cX7_longestVerse 12 = .ok (.iload 4, 2) := by decide +kernel
theorem dX7_longestVerse_14 : decode cX7_longestVerse 14 = .ok (.iload_n 1, 1) := by decide +kernel
theorem dX7_longestVerse_15 : decode cX7_longestVerse 15 = .ok (.if_icmp .gt 50, 3) := by decide +kernel
theorem dX7_longestVerse_18 : decode cX7_longestVerse 18 = .ok (.iload 4, 2) := by decide +kernel
theorem dX7_longestVerse_20 : decode cX7_longestVerse 20 = .ok (.iload_n 1, 1) := by decide +kernel
theorem dX7_longestVerse_21 : decode cX7_longestVerse 21 = .ok (.iconst (-1), 1) := by decide +kernel
theorem dX7_longestVerse_22 : decode cX7_longestVerse 22 = .ok (.ixor, 1) := by decide +kernel
theorem dX7_longestVerse_23 : decode cX7_longestVerse 23 = .ok (.iand, 1) := by decide +kernel
theorem dX7_longestVerse_24 : decode cX7_longestVerse 24 = .ok (.ifCond .eq 6, 3) := by decide +kernel
theorem dX7_longestVerse_27 : decode cX7_longestVerse 27 = .ok (.goto 32, 3) := by decide +kernel
theorem dX7_longestVerse_30 : decode cX7_longestVerse 30 = .ok (.aload_n 0, 1) := by decide +kernel
theorem dX7_longestVerse_31 : decode cX7_longestVerse 31 = .ok (.iload 4, 2) := by decide +kernel
theorem dX7_longestVerse_33 : decode cX7_longestVerse 33 = .ok (.invokestatic 127, 3) := by decide +kernel
theorem dX7_longestVerse_36 : decode cX7_longestVerse 36 = .ok (.istore 5, 2) := by decide +kernel
theorem dX7_longestVerse_38 : decode cX7_longestVerse 38 = .ok (.iload 5, 2) := by decide +kernel
theorem dX7_longestVerse_40 : decode cX7_longestVerse 40 = .ok (.iload_n 3, 1) := by decide +kernel
theorem dX7_longestVerse_41 : decode cX7_longestVerse 41 = .ok (.if_icmp .le 18, 3) := by decide +kernel
theorem dX7_longestVerse_44 : decode cX7_longestVerse 44 = .ok (.aload_n 0, 1) := by decide +kernel
theorem dX7_longestVerse_45 : decode cX7_longestVerse 45 = .ok (.iload 4, 2) := by decide +kernel
theorem dX7_longestVerse_47 : decode cX7_longestVerse 47 = .ok (.invokestatic 130, 3) := by decide +kernel
theorem dX7_longestVerse_50 : decode cX7_longestVerse 50 = .ok (.ifCond .eq 9, 3) := by decide +kernel
theorem dX7_longestVerse_53 : decode cX7_longestVerse 53 = .ok (.iload 5, 2) := by decide +kernel
theorem dX7_longestVerse_55 : decode cX7_longestVerse 55 = .ok (.istore_n 3, 1) := by decide +kernel
theorem dX7_longestVerse_56 : decode cX7_longestVerse 56 = .ok (.iload 4, 2) := by decide +kernel
theorem dX7_longestVerse_58 : decode cX7_longestVerse 58 = .ok (.istore_n 2, 1) := by decide +kernel
theorem dX7_longestVerse_59 : decode cX7_longestVerse 59 = .ok (.iinc 4 1, 3) := by decide +kernel
theorem dX7_longestVerse_62 : decode cX7_longestVerse 62 = .ok (.goto (-50), 3) := by decide +kernel
theorem dX7_longestVerse_65 : decode cX7_longestVerse 65 = .ok (.iload_n 2, 1) := by decide +kernel
theorem dX7_longestVerse_66 : decode cX7_longestVerse 66 = .ok (.ireturn, 1) := by decide +kernel
theorem dX7_isWithoutKin_0 : decode cX7_isWithoutKin 0 = .ok (.iconst 0, 1) := by decide +kernel
theorem dX7_isWithoutKin_1 : decode cX7_isWithoutKin 1 = .ok (.istore_n 2, 1) := by decide +kernel
theorem dX7_isWithoutKin_2 : decode cX7_isWithoutKin 2 = .ok (.iload_n 2, 1) := by decide +kernel
theorem dX7_isWithoutKin_3 : decode cX7_isWithoutKin 3 = .ok (.aload_n 0, 1) := by decide +kernel
theorem dX7_isWithoutKin_4 : decode cX7_isWithoutKin 4 = .ok (.getfield 93, 3) := by decide +kernel
theorem dX7_isWithoutKin_7 : decode cX7_isWithoutKin 7 = .ok (.if_icmp .ge 30, 3) := by decide +kernel
theorem dX7_isWithoutKin_10 : decode cX7_isWithoutKin 10 = .ok (.iload_n 1, 1) := by decide +kernel
theorem dX7_isWithoutKin_11 : decode cX7_isWithoutKin 11 = .ok (.iload_n 2, 1) := by decide +kernel
theorem dX7_isWithoutKin_12 : decode cX7_isWithoutKin 12 = .ok (.invokestatic 67, 3) := by decide +kernel
theorem dX7_isWithoutKin_15 : decode cX7_isWithoutKin 15 = .ok (.ifCond .eq 16, 3) := by decide +kernel
theorem dX7_isWithoutKin_18 : decode cX7_isWithoutKin 18 = .ok (.aload_n 0, 1) := by decide +kernel
theorem dX7_isWithoutKin_19 : decode cX7_isWithoutKin 19 = .ok (.getfield 134, 3) := by decide +kernel
theorem dX7_isWithoutKin_22 : decode cX7_isWithoutKin 22 = .ok (.iload_n 2, 1) := by decide +kernel
theorem dX7_isWithoutKin_23 : decode cX7_isWithoutKin 23 = .ok (.iaload, 1) := by decide +kernel
theorem dX7_isWithoutKin_24 : decode cX7_isWithoutKin 24 = .ok (.iload_n 1, 1) := by decide +kernel
theorem dX7_isWithoutKin_25 : decode cX7_isWithoutKin 25 = .ok (.iand, 1) := by decide +kernel
theorem dX7_isWithoutKin_26 : decode cX7_isWithoutKin 26 = .ok (.ifCond .eq 5, 3) := by decide +kernel
theorem dX7_isWithoutKin_29 : decode cX7_isWithoutKin 29 = .ok (.iconst 0, 1) := by decide +kernel
theorem dX7_isWithoutKin_30 : decode cX7_isWithoutKin 30 = .ok (.ireturn, 1) := by decide +kernel
theorem dX7_isWithoutKin_31 : decode cX7_isWithoutKin 31 = .ok (.iinc 2 1, 3) := by decide +kernel
theorem dX7_isWithoutKin_34 : decode cX7_isWithoutKin 34 = .ok (.goto (-32), 3) := by decide +kernel
theorem dX7_isWithoutKin_37 : decode cX7_isWithoutKin 37 = .ok (.iconst 1, 1) := by decide +kernel
theorem dX7_isWithoutKin_38 : decode cX7_isWithoutKin 38 = .ok (.ireturn, 1) := by decide +kernel
theorem dX7_fullestPlace_0 : decode cX7_fullestPlace 0 = .ok (.iconst 0, 1) := by decide +kernel
theorem dX7_fullestPlace_1 : decode cX7_fullestPlace 1 = .ok (.istore_n 1, 1) := by decide +kernel
theorem dX7_fullestPlace_2 : decode cX7_fullestPlace 2 = .ok (.iconst 0, 1) := by decide +kernel
theorem dX7_fullestPlace_3 : decode cX7_fullestPlace 3 = .ok (.istore_n 2, 1) := by decide +kernel
theorem dX7_fullestPlace_4 : decode cX7_fullestPlace 4 = .ok (.iconst 0, 1) := by decide +kernel
theorem dX7_fullestPlace_5 : decode cX7_fullestPlace 5 = .ok (.istore_n 3, 1) := by decide +kernel
theorem dX7_fullestPlace_6 : decode cX7_fullestPlace 6 = .ok (.iload_n 3, 1) := by decide +kernel
theorem dX7_fullestPlace_7 : decode cX7_fullestPlace 7 = .ok (.bipush 10, 2) := by decide +kernel
theorem dX7_fullestPlace_9 : decode cX7_fullestPlace 9 = .ok (.if_icmp .ge 30, 3) := by decide +kernel
theorem dX7_fullestPlace_12 : decode cX7_fullestPlace 12 = .ok (.aload_n 0, 1) := by decide +kernel
theorem dX7_fullestPlace_13 : decode cX7_fullestPlace 13 = .ok (.iload_n 3, 1) := by decide +kernel
theorem dX7_fullestPlace_14 : decode cX7_fullestPlace 14 = .ok (.invokevirtual 115, 3) := by decide +kernel
theorem dX7_fullestPlace_17 : decode cX7_fullestPlace 17 = .ok (.invokestatic 18, 3) := by decide +kernel
theorem dX7_fullestPlace_20 : decode cX7_fullestPlace 20 = .ok (.istore 4, 2) := by decide +kernel
theorem dX7_fullestPlace_22 : decode cX7_fullestPlace 22 = .ok (.iload 4, 2) := by decide +kernel
theorem dX7_fullestPlace_24 : decode cX7_fullestPlace 24 = .ok (.iload_n 2, 1) := by decide +kernel
theorem dX7_fullestPlace_25 : decode cX7_fullestPlace 25 = .ok (.if_icmp .le 8, 3) := by decide +kernel
theorem dX7_fullestPlace_28 : decode cX7_fullestPlace 28 = .ok (.iload 4, 2) := by decide +kernel
theorem dX7_fullestPlace_30 : decode cX7_fullestPlace 30 = .ok (.istore_n 2, 1) := by decide +kernel
theorem dX7_fullestPlace_31 : decode cX7_fullestPlace 31 = .ok (.iload_n 3, 1) := by decide +kernel
theorem dX7_fullestPlace_32 : decode cX7_fullestPlace 32 = .ok (.istore_n 1, 1) := by decide +kernel
theorem dX7_fullestPlace_33 : decode cX7_fullestPlace 33 = .ok (.iinc 3 1, 3) := by decide +kernel
theorem dX7_fullestPlace_36 : decode cX7_fullestPlace 36 = .ok (.goto (-30), 3) := by decide +kernel
theorem dX7_fullestPlace_39 : decode cX7_fullestPlace 39 = .ok (.iload_n 1, 1) := by decide +kernel
theorem dX7_fullestPlace_40 : decode cX7_fullestPlace 40 = .ok (.ireturn, 1) := by decide +kernel
theorem dX7_wordsInAllTongues_0 : decode cX7_wordsInAllTongues 0 = .ok (.iload_n 1, 1) := by decide +kernel
theorem dX7_wordsInAllTongues_1 : decode cX7_wordsInAllTongues 1 = .ok (.ifCond .ne 7, 3) := by decide +kernel
theorem dX7_wordsInAllTongues_4 : decode cX7_wordsInAllTongues 4 = .ok (.iconst 0, 1) := by decide +kernel
theorem dX7_wordsInAllTongues_5 : decode cX7_wordsInAllTongues 5 = .ok (.goto 11, 3) := by decide +kernel
theorem dX7_wordsInAllTongues_8 : decode cX7_wordsInAllTongues 8 = .ok (.iconst 1, 1) := by decide +kernel
theorem dX7_wordsInAllTongues_9 : decode cX7_wordsInAllTongues 9 = .ok (.aload_n 0, 1) := by decide +kernel
theorem dX7_wordsInAllTongues_10 : decode cX7_wordsInAllTongues 10 = .ok (.getfield 93, 3) := by decide +kernel
theorem dX7_wordsInAllTongues_13 : decode cX7_wordsInAllTongues 13 = .ok (.ishl, 1) := by decide +kernel
theorem dX7_wordsInAllTongues_14 : decode cX7_wordsInAllTongues 14 = .ok (.iconst 1, 1) := by decide +kernel
theorem dX7_wordsInAllTongues_15 : decode cX7_wordsInAllTongues 15 = .ok (.isub, 1) := by decide +kernel
theorem dX7_wordsInAllTongues_16 : decode cX7_wordsInAllTongues 16 = .ok (.istore_n 2, 1) := by decide +kernel
theorem dX7_wordsInAllTongues_17 : decode cX7_wordsInAllTongues 17 = .ok (.iconst 0, 1) := by decide +kernel
theorem dX7_wordsInAllTongues_18 : decode cX7_wordsInAllTongues 18 = .ok (.istore_n 3, 1) := by decide +kernel
theorem dX7_wordsInAllTongues_19 : decode cX7_wordsInAllTongues 19 = .ok (.iload_n 3, 1) := by decide +kernel
theorem dX7_wordsInAllTongues_20 : decode cX7_wordsInAllTongues 20 = .ok (.aload_n 0, 1) := by decide +kernel
theorem dX7_wordsInAllTongues_21 : decode cX7_wordsInAllTongues 21 = .ok (.getfield 60, 3) := by decide +kernel
theorem dX7_wordsInAllTongues_24 : decode cX7_wordsInAllTongues 24 = .ok (.if_icmp .ge 29, 3) := by decide +kernel
theorem dX7_wordsInAllTongues_27 : decode cX7_wordsInAllTongues 27 = .ok (.iload_n 1, 1) := by decide +kernel
theorem dX7_wordsInAllTongues_28 : decode cX7_wordsInAllTongues 28 = .ok (.iload_n 3, 1) := by decide +kernel
theorem dX7_wordsInAllTongues_29 : decode cX7_wordsInAllTongues 29 = .ok (.invokestatic 67, 3) := by decide +kernel
theorem dX7_wordsInAllTongues_32 : decode cX7_wordsInAllTongues 32 = .ok (.ifCond .eq 15, 3) := by decide +kernel
theorem dX7_wordsInAllTongues_35 : decode cX7_wordsInAllTongues 35 = .ok (.iload_n 2, 1) := by decide +kernel
theorem dX7_wordsInAllTongues_36 : decode cX7_wordsInAllTongues 36 = .ok (.aload_n 0, 1) := by decide +kernel
theorem dX7_wordsInAllTongues_37 : decode cX7_wordsInAllTongues 37 = .ok (.getfield 37, 3) := by decide +kernel
theorem dX7_wordsInAllTongues_40 : decode cX7_wordsInAllTongues 40 = .ok (.getfield 56, 3) := by decide +kernel
theorem dX7_wordsInAllTongues_43 : decode cX7_wordsInAllTongues 43 = .ok (.iload_n 3, 1) := by decide +kernel
theorem dX7_wordsInAllTongues_44 : decode cX7_wordsInAllTongues 44 = .ok (.iaload, 1) := by decide +kernel
theorem dX7_wordsInAllTongues_45 : decode cX7_wordsInAllTongues 45 = .ok (.iand, 1) := by decide +kernel
theorem dX7_wordsInAllTongues_46 : decode cX7_wordsInAllTongues 46 = .ok (.istore_n 2, 1) := by decide +kernel
theorem dX7_wordsInAllTongues_47 : decode cX7_wordsInAllTongues 47 = .ok (.iinc 3 1, 3) := by decide +kernel
theorem dX7_wordsInAllTongues_50 : decode cX7_wordsInAllTongues 50 = .ok (.goto (-31), 3) := by decide +kernel
theorem dX7_wordsInAllTongues_53 : decode cX7_wordsInAllTongues 53 = .ok (.iload_n 2, 1) := by decide +kernel
theorem dX7_wordsInAllTongues_54 : decode cX7_wordsInAllTongues 54 = .ok (.invokestatic 18, 3) := by decide +kernel
theorem dX7_wordsInAllTongues_57 : decode cX7_wordsInAllTongues 57 = .ok (.ireturn, 1) := by decide +kernel
theorem dX7_heapSum_0 : decode cX7_heapSum 0 = .ok (.iconst 0, 1) := by decide +kernel
theorem dX7_heapSum_1 : decode cX7_heapSum 1 = .ok (.istore_n 1, 1) := by decide +kernel
theorem dX7_heapSum_2 : decode cX7_heapSum 2 = .ok (.iconst 0, 1) := by decide +kernel
theorem dX7_heapSum_3 : decode cX7_heapSum 3 = .ok (.istore_n 2, 1) := by decide +kernel
theorem dX7_heapSum_4 : decode cX7_heapSum 4 = .ok (.iload_n 2, 1) := by decide +kernel
theorem dX7_heapSum_5 : decode cX7_heapSum 5 = .ok (.aload_n 0, 1) := by decide +kernel
theorem dX7_heapSum_6 : decode cX7_heapSum 6 = .ok (.getfield 93, 3) := by decide +kernel
theorem dX7_heapSum_9 : decode cX7_heapSum 9 = .ok (.if_icmp .ge 25, 3) := by decide +kernel
theorem dX7_heapSum_12 : decode cX7_heapSum 12 = .ok (.aload_n 0, 1) := by decide +kernel
theorem dX7_heapSum_13 : decode cX7_heapSum 13 = .ok (.iload_n 2, 1) := by decide +kernel
theorem dX7_heapSum_14 : decode cX7_heapSum 14 = .ok (.invokevirtual 137, 3) := by decide +kernel
theorem dX7_heapSum_17 : decode cX7_heapSum 17 = .ok (.ifCond .ne 11, 3) := by decide +kernel
theorem dX7_heapSum_20 : decode cX7_heapSum 20 = .ok (.iload_n 1, 1) := by decide +kernel
theorem dX7_heapSum_21 : decode cX7_heapSum 21 = .ok (.aload_n 0, 1) := by decide +kernel
theorem dX7_heapSum_22 : decode cX7_heapSum 22 = .ok (.iload_n 2, 1) := by decide +kernel
theorem dX7_heapSum_23 : decode cX7_heapSum 23 = .ok (.invokevirtual 140, 3) := by decide +kernel
theorem dX7_heapSum_26 : decode cX7_heapSum 26 = .ok (.ixor, 1) := by decide +kernel
theorem dX7_heapSum_27 : decode cX7_heapSum 27 = .ok (.istore_n 1, 1) := by decide +kernel
theorem dX7_heapSum_28 : decode cX7_heapSum 28 = .ok (.iinc 2 1, 3) := by decide +kernel
theorem dX7_heapSum_31 : decode cX7_heapSum 31 = .ok (.goto (-27), 3) := by decide +kernel
theorem dX7_heapSum_34 : decode cX7_heapSum 34 = .ok (.iload_n 1, 1) := by decide +kernel
theorem dX7_heapSum_35 : decode cX7_heapSum 35 = .ok (.ireturn, 1) := by decide +kernel
theorem dX7_wordToSilence_0 : decode cX7_wordToSilence 0 = .ok (.iconst 0, 1) := by decide +kernel
theorem dX7_wordToSilence_1 : decode cX7_wordToSilence 1 = .ok (.istore_n 2, 1) := by decide +kernel
theorem dX7_wordToSilence_2 : decode cX7_wordToSilence 2 = .ok (.iload_n 2, 1) := by decide +kernel
theorem dX7_wordToSilence_3 : decode cX7_wordToSilence 3 = .ok (.aload_n 0, 1) := by decide +kernel
theorem dX7_wordToSilence_4 : decode cX7_wordToSilence 4 = .ok (.getfield 93, 3) := by decide +kernel
theorem dX7_wordToSilence_7 : decode cX7_wordToSilence 7 = .ok (.if_icmp .ge 34, 3) := by decide +kernel
theorem dX7_wordToSilence_10 : decode cX7_wordToSilence 10 = .ok (.aload_n 0, 1) := by decide +kernel
theorem dX7_wordToSilence_11 : decode cX7_wordToSilence 11 = .ok (.iload_n 2, 1) := by decide +kernel
theorem dX7_wordToSilence_12 : decode cX7_wordToSilence 12 = .ok (.invokevirtual 137, 3) := by decide +kernel
theorem dX7_wordToSilence_15 : decode cX7_wordToSilence 15 = .ok (.ifCond .ne 20, 3) := by decide +kernel
theorem dX7_wordToSilence_18 : decode cX7_wordToSilence 18 = .ok (.aload_n 0, 1) := by decide +kernel
theorem dX7_wordToSilence_19 : decode cX7_wordToSilence 19 = .ok (.iload_n 2, 1) := by decide +kernel
theorem dX7_wordToSilence_20 : decode cX7_wordToSilence 20 = .ok (.invokevirtual 140, 3) := by decide +kernel
theorem dX7_wordToSilence_23 : decode cX7_wordToSilence 23 = .ok (.iload_n 1, 1) := by decide +kernel
theorem dX7_wordToSilence_24 : decode cX7_wordToSilence 24 = .ok (.ixor, 1) := by decide +kernel
theorem dX7_wordToSilence_25 : decode cX7_wordToSilence 25 = .ok (.aload_n 0, 1) := by decide +kernel
theorem dX7_wordToSilence_26 : decode cX7_wordToSilence 26 = .ok (.iload_n 2, 1) := by decide +kernel
theorem dX7_wordToSilence_27 : decode cX7_wordToSilence 27 = .ok (.invokevirtual 140, 3) := by decide +kernel
theorem dX7_wordToSilence_30 : decode cX7_wordToSilence 30 = .ok (.if_icmp .ge 5, 3) := by decide +kernel
theorem dX7_wordToSilence_33 : decode cX7_wordToSilence 33 = .ok (.iload_n 2, 1) := by decide +kernel
theorem dX7_wordToSilence_34 : decode cX7_wordToSilence 34 = .ok (.ireturn, 1) := by decide +kernel
theorem dX7_wordToSilence_35 : decode cX7_wordToSilence 35 = .ok (.iinc 2 1, 3) := by decide +kernel
theorem dX7_wordToSilence_38 : decode cX7_wordToSilence 38 = .ok (.goto (-36), 3) := by decide +kernel
theorem dX7_wordToSilence_41 : decode cX7_wordToSilence 41 = .ok (.iconst (-1), 1) := by decide +kernel
theorem dX7_wordToSilence_42 : decode cX7_wordToSilence 42 = .ok (.ireturn, 1) := by decide +kernel
theorem dX8_init_0 : decode cX8_init 0 = .ok (.aload_n 0, 1) := by decide +kernel
theorem dX8_init_1 : decode cX8_init 1 = .ok (.invokespecial 3, 3) := by decide +kernel
theorem dX8_init_4 : decode cX8_init 4 = .ok (.aload_n 0, 1) := by decide +kernel
theorem dX8_init_5 : decode cX8_init 5 = .ok (.bipush 14, 2) := by decide +kernel
theorem dX8_init_7 : decode cX8_init 7 = .ok (.newarray .int, 2) := by decide +kernel
theorem dX8_init_9 : decode cX8_init 9 = .ok (.putfield 9, 3) := by decide +kernel
theorem dX8_init_12 : decode cX8_init 12 = .ok (.aload_n 0, 1) := by decide +kernel
theorem dX8_init_13 : decode cX8_init 13 = .ok (.bipush 14, 2) := by decide +kernel
theorem dX8_init_15 : decode cX8_init 15 = .ok (.newarray .int, 2) := by decide +kernel
theorem dX8_init_17 : decode cX8_init 17 = .ok (.putfield 15, 3) := by decide +kernel
theorem dX8_init_20 : decode cX8_init 20 = .ok (.aload_n 0, 1) := by decide +kernel
theorem dX8_init_21 : decode cX8_init 21 = .ok (.bipush 100, 2) := by decide +kernel
theorem dX8_init_23 : decode cX8_init 23 = .ok (.newarray .int, 2) := by decide +kernel
theorem dX8_init_25 : decode cX8_init 25 = .ok (.putfield 18, 3) := by decide +kernel
theorem dX8_init_28 : decode cX8_init 28 = .ok (.aload_n 0, 1) := by decide +kernel
theorem dX8_init_29 : decode cX8_init 29 = .ok (.new 21, 3) := by decide +kernel
theorem dX8_init_32 : decode cX8_init 32 = .ok (.dup, 1) := by decide +kernel
theorem dX8_init_33 : decode cX8_init 33 = .ok (.invokespecial 23, 3) := by decide +kernel
theorem dX8_init_36 : decode cX8_init 36 = .ok (.putfield 24, 3) := by decide +kernel
theorem dX8_init_39 : decode cX8_init 39 = .ok (.aload_n 0, 1) := by decide +kernel
theorem dX8_init_40 : decode cX8_init 40 = .ok (.new 28, 3) := by decide +kernel
theorem dX8_init_43 : decode cX8_init 43 = .ok (.dup, 1) := by decide +kernel
theorem dX8_init_44 : decode cX8_init 44 = .ok (.sipush 150, 3) := by decide +kernel
theorem dX8_init_47 : decode cX8_init 47 = .ok (.invokespecial 30, 3) := by decide +kernel
theorem dX8_init_50 : decode cX8_init 50 = .ok (.putfield 33, 3) := by decide +kernel
theorem dX8_init_53 : decode cX8_init 53 = .ok (.aload_n 0, 1) := by decide +kernel
theorem dX8_init_54 : decode cX8_init 54 = .ok (.new 28, 3) := by decide +kernel
theorem dX8_init_57 : decode cX8_init 57 = .ok (.dup, 1) := by decide +kernel
theorem dX8_init_58 : decode cX8_init 58 = .ok (.bipush 16, 2) := by decide +kernel
theorem dX8_init_60 : decode cX8_init 60 = .ok (.invokespecial 30, 3) := by decide +kernel
theorem dX8_init_63 : decode cX8_init 63 = .ok (.putfield 37, 3) := by decide +kernel
theorem dX8_init_66 : decode cX8_init 66 = .ok (.aload_n 0, 1) := by decide +kernel
theorem dX8_init_67 : decode cX8_init 67 = .ok (.new 28, 3) := by decide +kernel
theorem dX8_init_70 : decode cX8_init 70 = .ok (.dup, 1) := by decide +kernel
theorem dX8_init_71 : decode cX8_init 71 = .ok (.bipush 12, 2) := by decide +kernel
theorem dX8_init_73 : decode cX8_init 73 = .ok (.invokespecial 30, 3) := by decide +kernel
theorem dX8_init_76 : decode cX8_init 76 = .ok (.putfield 40, 3) := by decide +kernel
theorem dX8_init_79 : decode cX8_init 79 = .ok (.aload_n 0, 1) := by decide +kernel
theorem dX8_init_80 : decode cX8_init 80 = .ok (.new 28, 3) := by decide +kernel
theorem dX8_init_83 : decode cX8_init 83 = .ok (.dup, 1) := by decide +kernel
theorem dX8_init_84 : decode cX8_init 84 = .ok (.bipush 10, 2) := by decide +kernel
theorem dX8_init_86 : decode cX8_init 86 = .ok (.invokespecial 30, 3) := by decide +kernel
theorem dX8_init_89 : decode cX8_init 89 = .ok (.putfield 43, 3) := by decide +kernel
theorem dX8_init_92 : decode cX8_init 92 = .ok (.aload_n 0, 1) := by decide +kernel
theorem dX8_init_93 : decode cX8_init 93 = .ok (.new 46, 3) := by decide +kernel
theorem dX8_init_96 : decode cX8_init 96 = .ok (.dup, 1) := by decide +kernel
theorem dX8_init_97 : decode cX8_init 97 = .ok (.invokespecial 48, 3) := by decide +kernel
theorem dX8_init_100 : decode cX8_init 100 = .ok (.putfield 49, 3) := by decide +kernel
theorem dX8_init_103 : decode cX8_init 103 = .ok (.aload_n 0, 1) := by decide +kernel
theorem dX8_init_104 : decode cX8_init 104 = .ok (.new 53, 3) := by decide +kernel
theorem dX8_init_107 : decode cX8_init 107 = .ok (.dup, 1) := by decide +kernel
theorem dX8_init_108 : decode cX8_init 108 = .ok (.invokespecial 55, 3) := by decide +kernel
theorem dX8_init_111 : decode cX8_init 111 = .ok (.putfield 56, 3) := by decide +kernel
theorem dX8_init_114 : decode cX8_init 114 = .ok (.aload_n 0, 1) := by decide +kernel
theorem dX8_init_115 : decode cX8_init 115 = .ok (.bipush 8, 2) := by decide +kernel
theorem dX8_init_117 : decode cX8_init 117 = .ok (.newarray .int, 2) := by decide +kernel
theorem dX8_init_119 : decode cX8_init 119 = .ok (.putfield 60, 3) := by decide +kernel
theorem dX8_init_122 : decode cX8_init 122 = .ok (.iconst 0, 1) := by decide +kernel
theorem dX8_init_123 : decode cX8_init 123 = .ok (.istore_n 1, 1) := by decide +kernel
theorem dX8_init_124 : decode cX8_init 124 = .ok (.iload_n 1, 1) := by decide +kernel
theorem dX8_init_125 : decode cX8_init 125 = .ok (.bipush 100, 2) := by decide +kernel
theorem dX8_init_127 : decode cX8_init 127 = .ok (.if_icmp .ge 32, 3) := by decide +kernel
theorem dX8_init_130 : decode cX8_init 130 = .ok (.aload_n 0, 1) := by decide +kernel
theorem dX8_init_131 : decode cX8_init 131 = .ok (.getfield 18, 3) := by decide +kernel
theorem dX8_init_134 : decode cX8_init 134 = .ok (.iload_n 1, 1) := by decide +kernel
theorem dX8_init_135 : decode cX8_init 135 = .ok (.iload_n 1, 1) := by decide +kernel
theorem dX8_init_136 : decode cX8_init 136 = .ok (.bipush 10, 2) := by decide +kernel
theorem dX8_init_138 : decode cX8_init 138 = .ok (.idiv, 1) := by decide +kernel
theorem dX8_init_139 : decode cX8_init 139 = .ok (.iload_n 1, 1) := by decide +kernel
theorem dX8_init_140 : decode cX8_init 140 = .ok (.bipush 10, 2) := by decide +kernel
theorem dX8_init_142 : decode cX8_init 142 = .ok (.irem, 1) := by decide +kernel
theorem dX8_init_143 : decode cX8_init 143 = .ok (.if_icmp .ne 7, 3) := by decide +kernel
theorem dX8_init_146 : decode cX8_init 146 = .ok (.iconst 0, 1) := by decide +kernel
theorem dX8_init_147 : decode cX8_init 147 = .ok (.goto 5, 3) := by decide +kernel
theorem dX8_init_150 : decode cX8_init 150 = .ok (.bipush 10, 2) := by decide +kernel
theorem dX8_init_152 : decode cX8_init 152 = .ok (.iastore, 1) := by decide +kernel
