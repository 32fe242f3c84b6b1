theorem dX6_readWording_102 : decode cX6_readWording 102 = .ok (.iload_n 3, 1) := by decide +kernel
theorem dX6_readWording_103 : decode cX6_readWording 103 = .ok (.iload 4, 2) := by decide +kernel
theorem dX6_readWording_105 : decode cX6_readWording 105 = .ok (.invokevirtual 178, 3) := by decide +kernel
theorem dX6_readWording_108 : decode cX6_readWording 108 = .ok (.ireturn, 1) := by decide +kernel
theorem dX6_readWalk_0 : decode cX6_readWalk 0 = .ok (.aload_n 0, 1) := by decide +kernel
theorem dX6_readWalk_1 : decode cX6_readWalk 1 = .ok (.bipush 116, 2) := by decide +kernel
theorem dX6_readWalk_3 : decode cX6_readWalk 3 = .ok (.aload_n 2, 1) := by decide +kernel
theorem dX6_readWalk_4 : decode cX6_readWalk 4 = .ok (.getfield 56, 3) := by decide +kernel
theorem dX6_readWalk_7 : decode cX6_readWalk 7 = .ok (.bipush 16, 2) := by decide +kernel
theorem dX6_readWalk_9 : decode cX6_readWalk 9 = .ok (.invokevirtual 151, 3) := by decide +kernel
theorem dX6_readWalk_12 : decode cX6_readWalk 12 = .ok (.ifCond .eq 14, 3) := by decide +kernel
theorem dX6_readWalk_15 : decode cX6_readWalk 15 = .ok (.aload_n 0, 1) := by decide +kernel
theorem dX6_readWalk_16 : decode cX6_readWalk 16 = .ok (.iconst 0, 1) := by decide +kernel
theorem dX6_readWalk_17 : decode cX6_readWalk 17 = .ok (.sipush 999, 3) := by decide +kernel
theorem dX6_readWalk_20 : decode cX6_readWalk 20 = .ok (.invokevirtual 171, 3) := by decide +kernel
theorem dX6_readWalk_23 : decode cX6_readWalk 23 = .ok (.ifCond .ne 5, 3) := by decide +kernel
theorem dX6_readWalk_26 : decode cX6_readWalk 26 = .ok (.iconst 0, 1) := by decide +kernel
theorem dX6_readWalk_27 : decode cX6_readWalk 27 = .ok (.ireturn, 1) := by decide +kernel
theorem dX6_readWalk_28 : decode cX6_readWalk 28 = .ok (.aload_n 0, 1) := by decide +kernel
theorem dX6_readWalk_29 : decode cX6_readWalk 29 = .ok (.getfield 148, 3) := by decide +kernel
theorem dX6_readWalk_32 : decode cX6_readWalk 32 = .ok (.istore_n 3, 1) := by decide +kernel
theorem dX6_readWalk_33 : decode cX6_readWalk 33 = .ok (.aload_n 0, 1) := by decide +kernel
theorem dX6_readWalk_34 : decode cX6_readWalk 34 = .ok (.iconst 0, 1) := by decide +kernel
theorem dX6_readWalk_35 : decode cX6_readWalk 35 = .ok (.aload_n 1, 1) := by decide +kernel
theorem dX6_readWalk_36 : decode cX6_readWalk 36 = .ok (.getfield 181, 3) := by decide +kernel
theorem dX6_readWalk_39 : decode cX6_readWalk 39 = .ok (.iconst 1, 1) := by decide +kernel
theorem dX6_readWalk_40 : decode cX6_readWalk 40 = .ok (.isub, 1) := by decide +kernel
theorem dX6_readWalk_41 : decode cX6_readWalk 41 = .ok (.invokevirtual 171, 3) := by decide +kernel
theorem dX6_readWalk_44 : decode cX6_readWalk 44 = .ok (.ifCond .ne 5, 3) := by decide +kernel
theorem dX6_readWalk_47 : decode cX6_readWalk 47 = .ok (.iconst 0, 1) := by decide +kernel
theorem dX6_readWalk_48 : decode cX6_readWalk 48 = .ok (.ireturn, 1) := by decide +kernel
theorem dX6_readWalk_49 : decode cX6_readWalk 49 = .ok (.aload_n 0, 1) := by decide +kernel
theorem dX6_readWalk_50 : decode cX6_readWalk 50 = .ok (.getfield 148, 3) := by decide +kernel
theorem dX6_readWalk_53 : decode cX6_readWalk 53 = .ok (.istore 4, 2) := by decide +kernel
theorem dX6_readWalk_55 : decode cX6_readWalk 55 = .ok (.aload_n 0, 1) := by decide +kernel
theorem dX6_readWalk_56 : decode cX6_readWalk 56 = .ok (.invokevirtual 62, 3) := by decide +kernel
theorem dX6_readWalk_59 : decode cX6_readWalk 59 = .ok (.istore 5, 2) := by decide +kernel
theorem dX6_readWalk_61 : decode cX6_readWalk 61 = .ok (.iload 5, 2) := by decide +kernel
theorem dX6_readWalk_63 : decode cX6_readWalk 63 = .ok (.bipush 117, 2) := by decide +kernel
theorem dX6_readWalk_65 : decode cX6_readWalk 65 = .ok (.if_icmp .eq 23, 3) := by decide +kernel
theorem dX6_readWalk_68 : decode cX6_readWalk 68 = .ok (.iload 5, 2) := by decide +kernel
theorem dX6_readWalk_70 : decode cX6_readWalk 70 = .ok (.bipush 118, 2) := by decide +kernel
theorem dX6_readWalk_72 : decode cX6_readWalk 72 = .ok (.if_icmp .eq 16, 3) := by decide +kernel
theorem dX6_readWalk_75 : decode cX6_readWalk 75 = .ok (.iload 5, 2) := by decide +kernel
theorem dX6_readWalk_77 : decode cX6_readWalk 77 = .ok (.bipush 119, 2) := by decide +kernel
theorem dX6_readWalk_79 : decode cX6_readWalk 79 = .ok (.if_icmp .eq 9, 3) := by decide +kernel
theorem dX6_readWalk_82 : decode cX6_readWalk 82 = .ok (.aload_n 0, 1) := by decide +kernel
theorem dX6_readWalk_83 : decode cX6_readWalk 83 = .ok (.iconst 1, 1) := by decide +kernel
theorem dX6_readWalk_84 : decode cX6_readWalk 84 = .ok (.invokevirtual 145, 3) := by decide +kernel
theorem dX6_readWalk_87 : decode cX6_readWalk 87 = .ok (.ireturn, 1) := by decide +kernel
theorem dX6_readWalk_88 : decode cX6_readWalk 88 = .ok (.aload_n 0, 1) := by decide +kernel
theorem dX6_readWalk_89 : decode cX6_readWalk 89 = .ok (.dup, 1) := by decide +kernel
theorem dX6_readWalk_90 : decode cX6_readWalk 90 = .ok (.getfield 82, 3) := by decide +kernel
theorem dX6_readWalk_93 : decode cX6_readWalk 93 = .ok (.iconst 1, 1) := by decide +kernel
theorem dX6_readWalk_94 : decode cX6_readWalk 94 = .ok (.iadd, 1) := by decide +kernel
theorem dX6_readWalk_95 : decode cX6_readWalk 95 = .ok (.putfield 82, 3) := by decide +kernel
theorem dX6_readWalk_98 : decode cX6_readWalk 98 = .ok (.aload_n 0, 1) := by decide +kernel
theorem dX6_readWalk_99 : decode cX6_readWalk 99 = .ok (.iconst (-1), 1) := by decide +kernel
theorem dX6_readWalk_100 : decode cX6_readWalk 100 = .ok (.putfield 148, 3) := by decide +kernel
theorem dX6_readWalk_103 : decode cX6_readWalk 103 = .ok (.iload 5, 2) := by decide +kernel
theorem dX6_readWalk_105 : decode cX6_readWalk 105 = .ok (.bipush 119, 2) := by decide +kernel
theorem dX6_readWalk_107 : decode cX6_readWalk 107 = .ok (.if_icmp .eq 31, 3) := by decide +kernel
theorem dX6_readWalk_110 : decode cX6_readWalk 110 = .ok (.aload_n 0, 1) := by decide +kernel
theorem dX6_readWalk_111 : decode cX6_readWalk 111 = .ok (.iconst 0, 1) := by decide +kernel
theorem dX6_readWalk_112 : decode cX6_readWalk 112 = .ok (.iload 5, 2) := by decide +kernel
theorem dX6_readWalk_114 : decode cX6_readWalk 114 = .ok (.bipush 117, 2) := by decide +kernel
theorem dX6_readWalk_116 : decode cX6_readWalk 116 = .ok (.if_icmp .ne 8, 3) := by decide +kernel
theorem dX6_readWalk_119 : decode cX6_readWalk 119 = .ok (.bipush 9, 2) := by decide +kernel
theorem dX6_readWalk_121 : decode cX6_readWalk 121 = .ok (.goto 9, 3) := by decide +kernel
theorem dX6_readWalk_124 : decode cX6_readWalk 124 = .ok (.aload_n 1, 1) := by decide +kernel
theorem dX6_readWalk_125 : decode cX6_readWalk 125 = .ok (.getfield 168, 3) := by decide +kernel
theorem dX6_readWalk_128 : decode cX6_readWalk 128 = .ok (.iconst 1, 1) := by decide +kernel
theorem dX6_readWalk_129 : decode cX6_readWalk 129 = .ok (.isub, 1) := by decide +kernel
theorem dX6_readWalk_130 : decode cX6_readWalk 130 = .ok (.invokevirtual 171, 3) := by decide +kernel
theorem dX6_readWalk_133 : decode cX6_readWalk 133 = .ok (.ifCond .ne 5, 3) := by decide +kernel
theorem dX6_readWalk_136 : decode cX6_readWalk 136 = .ok (.iconst 0, 1) := by decide +kernel
theorem dX6_readWalk_137 : decode cX6_readWalk 137 = .ok (.ireturn, 1) := by decide +kernel
theorem dX6_readWalk_138 : decode cX6_readWalk 138 = .ok (.aload_n 2, 1) := by decide +kernel
theorem dX6_readWalk_139 : decode cX6_readWalk 139 = .ok (.iload_n 3, 1) := by decide +kernel
theorem dX6_readWalk_140 : decode cX6_readWalk 140 = .ok (.iload 4, 2) := by decide +kernel
theorem dX6_readWalk_142 : decode cX6_readWalk 142 = .ok (.iload 5, 2) := by decide +kernel
theorem dX6_readWalk_144 : decode cX6_readWalk 144 = .ok (.aload_n 0, 1) := by decide +kernel
theorem dX6_readWalk_145 : decode cX6_readWalk 145 = .ok (.getfield 148, 3) := by decide +kernel
theorem dX6_readWalk_148 : decode cX6_readWalk 148 = .ok (.invokevirtual 184, 3) := by decide +kernel
theorem dX6_readWalk_151 : decode cX6_readWalk 151 = .ok (.aload_n 0, 1) := by decide +kernel
theorem dX6_readWalk_152 : decode cX6_readWalk 152 = .ok (.bipush 59, 2) := by decide +kernel
theorem dX6_readWalk_154 : decode cX6_readWalk 154 = .ok (.invokevirtual 161, 3) := by decide +kernel
theorem dX6_readWalk_157 : decode cX6_readWalk 157 = .ok (.ireturn, 1) := by decide +kernel
theorem dX6_readNeed_0 : decode cX6_readNeed 0 = .ok (.aload_n 0, 1) := by decide +kernel
theorem dX6_readNeed_1 : decode cX6_readNeed 1 = .ok (.bipush 120, 2) := by decide +kernel
theorem dX6_readNeed_3 : decode cX6_readNeed 3 = .ok (.aload_n 2, 1) := by decide +kernel
theorem dX6_readNeed_4 : decode cX6_readNeed 4 = .ok (.getfield 56, 3) := by decide +kernel
theorem dX6_readNeed_7 : decode cX6_readNeed 7 = .ok (.bipush 12, 2) := by decide +kernel
theorem dX6_readNeed_9 : decode cX6_readNeed 9 = .ok (.invokevirtual 151, 3) := by decide +kernel
theorem dX6_readNeed_12 : decode cX6_readNeed 12 = .ok (.ifCond .eq 20, 3) := by decide +kernel
theorem dX6_readNeed_15 : decode cX6_readNeed 15 = .ok (.aload_n 0, 1) := by decide +kernel
theorem dX6_readNeed_16 : decode cX6_readNeed 16 = .ok (.iconst 0, 1) := by decide +kernel
theorem dX6_readNeed_17 : decode cX6_readNeed 17 = .ok (.aload_n 1, 1) := by decide +kernel
theorem dX6_readNeed_18 : decode cX6_readNeed 18 = .ok (.getfield 32, 3) := by decide +kernel
theorem dX6_readNeed_21 : decode cX6_readNeed 21 = .ok (.getfield 38, 3) := by decide +kernel
theorem dX6_readNeed_24 : decode cX6_readNeed 24 = .ok (.iconst 1, 1) := by decide +kernel
theorem dX6_readNeed_25 : decode cX6_readNeed 25 = .ok (.isub, 1) := by decide +kernel
theorem dX6_readNeed_26 : decode cX6_readNeed 26 = .ok (.invokevirtual 171, 3) := by decide +kernel
theorem dX6_readNeed_29 : decode cX6_readNeed 29 = .ok (.ifCond .ne 5, 3) := by decide +kernel
theorem dX6_readNeed_32 : decode cX6_readNeed 32 = .ok (.iconst 0, 1) := by decide +kernel
theorem dX6_readNeed_33 : decode cX6_readNeed 33 = .ok (.ireturn, 1) := by decide +kernel
theorem dX6_readNeed_34 : decode cX6_readNeed 34 = .ok (.aload_n 0, 1) := by decide +kernel
theorem dX6_readNeed_35 : decode cX6_readNeed 35 = .ok (.getfield 148, 3) := by decide +kernel
theorem dX6_readNeed_38 : decode cX6_readNeed 38 = .ok (.istore_n 3, 1) := by decide +kernel
theorem dX6_readNeed_39 : decode cX6_readNeed 39 = .ok (.aload_n 0, 1) := by decide +kernel
theorem dX6_readNeed_40 : decode cX6_readNeed 40 = .ok (.bipush 121, 2) := by decide +kernel
theorem dX6_readNeed_42 : decode cX6_readNeed 42 = .ok (.invokevirtual 161, 3) := by decide +kernel
theorem dX6_readNeed_45 : decode cX6_readNeed 45 = .ok (.ifCond .eq 14, 3) := by decide +kernel
theorem dX6_readNeed_48 : decode cX6_readNeed 48 = .ok (.aload_n 0, 1) := by decide +kernel
theorem dX6_readNeed_49 : decode cX6_readNeed 49 = .ok (.iconst 0, 1) := by decide +kernel
theorem dX6_readNeed_50 : decode cX6_readNeed 50 = .ok (.sipush 999, 3) := by decide +kernel
theorem dX6_readNeed_53 : decode cX6_readNeed 53 = .ok (.invokevirtual 171, 3) := by decide +kernel
theorem dX6_readNeed_56 : decode cX6_readNeed 56 = .ok (.ifCond .ne 5, 3) := by decide +kernel
theorem dX6_readNeed_59 : decode cX6_readNeed 59 = .ok (.iconst 0, 1) := by decide +kernel
theorem dX6_readNeed_60 : decode cX6_readNeed 60 = .ok (.ireturn, 1) := by decide +kernel
theorem dX6_readNeed_61 : decode cX6_readNeed 61 = .ok (.aload_n 0, 1) := by decide +kernel
theorem dX6_readNeed_62 : decode cX6_readNeed 62 = .ok (.getfield 148, 3) := by decide +kernel
theorem dX6_readNeed_65 : decode cX6_readNeed 65 = .ok (.istore 4, 2) := by decide +kernel
theorem dX6_readNeed_67 : decode cX6_readNeed 67 = .ok (.aload_n 0, 1) := by decide +kernel
theorem dX6_readNeed_68 : decode cX6_readNeed 68 = .ok (.bipush 122, 2) := by decide +kernel
theorem dX6_readNeed_70 : decode cX6_readNeed 70 = .ok (.invokevirtual 161, 3) := by decide +kernel
theorem dX6_readNeed_73 : decode cX6_readNeed 73 = .ok (.ifCond .eq 13, 3) := by decide +kernel
theorem dX6_readNeed_76 : decode cX6_readNeed 76 = .ok (.aload_n 0, 1) := by decide +kernel
theorem dX6_readNeed_77 : decode cX6_readNeed 77 = .ok (.iconst 1, 1) := by decide +kernel
theorem dX6_readNeed_78 : decode cX6_readNeed 78 = .ok (.bipush 99, 2) := by decide +kernel
theorem dX6_readNeed_80 : decode cX6_readNeed 80 = .ok (.invokevirtual 171, 3) := by decide +kernel
theorem dX6_readNeed_83 : decode cX6_readNeed 83 = .ok (.ifCond .ne 5, 3) := by decide +kernel
theorem dX6_readNeed_86 : decode cX6_readNeed 86 = .ok (.iconst 0, 1) := by decide +kernel
theorem dX6_readNeed_87 : decode cX6_readNeed 87 = .ok (.ireturn, 1) := by decide +kernel
theorem dX6_readNeed_88 : decode cX6_readNeed 88 = .ok (.aload_n 2, 1) := by decide +kernel
theorem dX6_readNeed_89 : decode cX6_readNeed 89 = .ok (.iload_n 3, 1) := by decide +kernel
theorem dX6_readNeed_90 : decode cX6_readNeed 90 = .ok (.iload 4, 2) := by decide +kernel
theorem dX6_readNeed_92 : decode cX6_readNeed 92 = .ok (.aload_n 0, 1) := by decide +kernel
theorem dX6_readNeed_93 : decode cX6_readNeed 93 = .ok (.getfield 148, 3) := by decide +kernel
theorem dX6_readNeed_96 : decode cX6_readNeed 96 = .ok (.iconst 0, 1) := by decide +kernel
theorem dX6_readNeed_97 : decode cX6_readNeed 97 = .ok (.invokevirtual 184, 3) := by decide +kernel
theorem dX6_readNeed_100 : decode cX6_readNeed 100 = .ok (.aload_n 0, 1) := by decide +kernel
theorem dX6_readNeed_101 : decode cX6_readNeed 101 = .ok (.bipush 59, 2) := by decide +kernel
theorem dX6_readNeed_103 : decode cX6_readNeed 103 = .ok (.invokevirtual 161, 3) := by decide +kernel
theorem dX6_readNeed_106 : decode cX6_readNeed 106 = .ok (.ireturn, 1) := by decide +kernel
theorem dX6_readLaw_0 : decode cX6_readLaw 0 = .ok (.aload_n 0, 1) := by decide +kernel
theorem dX6_readLaw_1 : decode cX6_readLaw 1 = .ok (.invokevirtual 62, 3) := by decide +kernel
theorem dX6_readLaw_4 : decode cX6_readLaw 4 = .ok (.istore_n 2, 1) := by decide +kernel
theorem dX6_readLaw_5 : decode cX6_readLaw 5 = .ok (.iload_n 2, 1) := by decide +kernel
theorem dX6_readLaw_6 : decode cX6_readLaw 6 = .ok (.bipush 104, 2) := by decide +kernel
theorem dX6_readLaw_8 : decode cX6_readLaw 8 = .ok (.if_icmp .eq 21, 3) := by decide +kernel
theorem dX6_readLaw_11 : decode cX6_readLaw 11 = .ok (.iload_n 2, 1) := by decide +kernel
theorem dX6_readLaw_12 : decode cX6_readLaw 12 = .ok (.bipush 105, 2) := by decide +kernel
theorem dX6_readLaw_14 : decode cX6_readLaw 14 = .ok (.if_icmp .eq 15, 3) := by decide +kernel
theorem dX6_readLaw_17 : decode cX6_readLaw 17 = .ok (.iload_n 2, 1) := by decide +kernel
theorem dX6_readLaw_18 : decode cX6_readLaw 18 = .ok (.bipush 106, 2) := by decide +kernel
theorem dX6_readLaw_20 : decode cX6_readLaw 20 = .ok (.if_icmp .eq 9, 3) := by decide +kernel
theorem dX6_readLaw_23 : decode cX6_readLaw 23 = .ok (.aload_n 0, 1) := by decide +kernel
theorem dX6_readLaw_24 : decode cX6_readLaw 24 = .ok (.iconst 1, 1) := by decide +kernel
theorem dX6_readLaw_25 : decode cX6_readLaw 25 = .ok (.invokevirtual 145, 3) := by decide +kernel
theorem dX6_readLaw_28 : decode cX6_readLaw 28 = .ok (.ireturn, 1) := by decide +kernel
theorem dX6_readLaw_29 : decode cX6_readLaw 29 = .ok (.aload_n 0, 1) := by decide +kernel
theorem dX6_readLaw_30 : decode cX6_readLaw 30 = .ok (.iload_n 2, 1) := by decide +kernel
theorem dX6_readLaw_31 : decode cX6_readLaw 31 = .ok (.aload_n 1, 1) := by decide +kernel
theorem dX6_readLaw_32 : decode cX6_readLaw 32 = .ok (.getfield 188, 3) := by decide +kernel
theorem dX6_readLaw_35 : decode cX6_readLaw 35 = .ok (.bipush 16, 2) := by decide +kernel
theorem dX6_readLaw_37 : decode cX6_readLaw 37 = .ok (.invokevirtual 151, 3) := by decide +kernel
theorem dX6_readLaw_40 : decode cX6_readLaw 40 = .ok (.ifCond .ne 5, 3) := by decide +kernel
theorem dX6_readLaw_43 : decode cX6_readLaw 43 = .ok (.iconst 0, 1) := by decide +kernel
theorem dX6_readLaw_44 : decode cX6_readLaw 44 = .ok (.ireturn, 1) := by decide +kernel
theorem dX6_readLaw_45 : decode cX6_readLaw 45 = .ok (.aload_n 1, 1) := by decide +kernel
theorem dX6_readLaw_46 : decode cX6_readLaw 46 = .ok (.iload_n 2, 1) := by decide +kernel
theorem dX6_readLaw_47 : decode cX6_readLaw 47 = .ok (.invokevirtual 189, 3) := by decide +kernel
theorem dX6_readLaw_50 : decode cX6_readLaw 50 = .ok (.aload_n 0, 1) := by decide +kernel
theorem dX6_readLaw_51 : decode cX6_readLaw 51 = .ok (.aload_n 1, 1) := by decide +kernel
theorem dX6_readLaw_52 : decode cX6_readLaw 52 = .ok (.invokevirtual 192, 3) := by decide +kernel
theorem dX6_readLaw_55 : decode cX6_readLaw 55 = .ok (.ifCond .ne 5, 3) := by decide +kernel
theorem dX6_readLaw_58 : decode cX6_readLaw 58 = .ok (.iconst 0, 1) := by decide +kernel
theorem dX6_readLaw_59 : decode cX6_readLaw 59 = .ok (.ireturn, 1) := by decide +kernel
theorem dX6_readLaw_60 : decode cX6_readLaw 60 = .ok (.aload_n 1, 1) := by decide +kernel
theorem dX6_readLaw_61 : decode cX6_readLaw 61 = .ok (.invokevirtual 195, 3) := by decide +kernel
theorem dX6_readLaw_64 : decode cX6_readLaw 64 = .ok (.aload_n 0, 1) := by decide +kernel
theorem dX6_readLaw_65 : decode cX6_readLaw 65 = .ok (.invokevirtual 62, 3) := by decide +kernel
theorem dX6_readLaw_68 : decode cX6_readLaw 68 = .ok (.bipush 107, 2) := by decide +kernel
theorem dX6_readLaw_70 : decode cX6_readLaw 70 = .ok (.if_icmp .ne 24, 3) := by decide +kernel
theorem dX6_readLaw_73 : decode cX6_readLaw 73 = .ok (.aload_n 0, 1) := by decide +kernel
theorem dX6_readLaw_74 : decode cX6_readLaw 74 = .ok (.dup, 1) := by decide +kernel
theorem dX6_readLaw_75 : decode cX6_readLaw 75 = .ok (.getfield 82, 3) := by decide +kernel
theorem dX6_readLaw_78 : decode cX6_readLaw 78 = .ok (.iconst 1, 1) := by decide +kernel
theorem dX6_readLaw_79 : decode cX6_readLaw 79 = .ok (.iadd, 1) := by decide +kernel
theorem dX6_readLaw_80 : decode cX6_readLaw 80 = .ok (.putfield 82, 3) := by decide +kernel
theorem dX6_readLaw_83 : decode cX6_readLaw 83 = .ok (.aload_n 0, 1) := by decide +kernel
theorem dX6_readLaw_84 : decode cX6_readLaw 84 = .ok (.aload_n 1, 1) := by decide +kernel
theorem dX6_readLaw_85 : decode cX6_readLaw 85 = .ok (.iconst 0, 1) := by decide +kernel
theorem dX6_readLaw_86 : decode cX6_readLaw 86 = .ok (.invokevirtual 198, 3) := by decide +kernel
theorem dX6_readLaw_89 : decode cX6_readLaw 89 = .ok (.ifCond .ne 5, 3) := by decide +kernel
theorem dX6_readLaw_92 : decode cX6_readLaw 92 = .ok (.iconst 0, 1) := by decide +kernel
theorem dX6_readLaw_93 : decode cX6_readLaw 93 = .ok (.ireturn, 1) := by decide +kernel
theorem dX6_readLaw_94 : decode cX6_readLaw 94 = .ok (.aload_n 1, 1) := by decide +kernel
theorem dX6_readLaw_95 : decode cX6_readLaw 95 = .ok (.invokevirtual 202, 3) := by decide +kernel
theorem dX6_readLaw_98 : decode cX6_readLaw 98 = .ok (.aload_n 0, 1) := by decide +kernel
theorem dX6_readLaw_99 : decode cX6_readLaw 99 = .ok (.bipush 59, 2) := by decide +kernel
theorem dX6_readLaw_101 : decode cX6_readLaw 101 = .ok (.invokevirtual 161, 3) := by decide +kernel
theorem dX6_readLaw_104 : decode cX6_readLaw 104 = .ok (.ireturn, 1) := by decide +kernel
theorem dX6_readEither_0 : decode cX6_readEither 0 = .ok (.iconst 0, 1) := by decide +kernel
theorem dX6_readEither_1 : decode cX6_readEither 1 = .ok (.istore_n 3, 1) := by decide +kernel
theorem dX6_readEither_2 : decode cX6_readEither 2 = .ok (.iload_n 3, 1) := by decide +kernel
theorem dX6_readEither_3 : decode cX6_readEither 3 = .ok (.sipush 400, 3) := by decide +kernel
theorem dX6_readEither_6 : decode cX6_readEither 6 = .ok (.if_icmp .gt 106, 3) := by decide +kernel
theorem dX6_readEither_9 : decode cX6_readEither 9 = .ok (.aload_n 0, 1) := by decide +kernel
theorem dX6_readEither_10 : decode cX6_readEither 10 = .ok (.aload_n 1, 1) := by decide +kernel
theorem dX6_readEither_11 : decode cX6_readEither 11 = .ok (.iload_n 2, 1) := by decide +kernel
theorem dX6_readEither_12 : decode cX6_readEither 12 = .ok (.invokevirtual 205, 3) := by decide +kernel
theorem dX6_readEither_15 : decode cX6_readEither 15 = .ok (.ifCond .ne 5, 3) := by decide +kernel
theorem dX6_readEither_18 : decode cX6_readEither 18 = .ok (.iconst 0, 1) := by decide +kernel
theorem dX6_readEither_19 : decode cX6_readEither 19 = .ok (.ireturn, 1) := by decide +kernel
theorem dX6_readEither_20 : decode cX6_readEither 20 = .ok (.iconst 0, 1) := by decide +kernel
theorem dX6_readEither_21 : decode cX6_readEither 21 = .ok (.istore 4, 2) := by decide +kernel
theorem dX6_readEither_23 : decode cX6_readEither 23 = .ok (.iload 4, 2) := by decide +kernel
theorem dX6_readEither_25 : decode cX6_readEither 25 = .ok (.sipush 400, 3) := by decide +kernel
theorem dX6_readEither_28 : decode cX6_readEither 28 = .ok (.if_icmp .gt 46, 3) := by decide +kernel
theorem dX6_readEither_31 : decode cX6_readEither 31 = .ok (.aload_n 0, 1) := by decide +kernel
theorem dX6_readEither_32 : decode cX6_readEither 32 = .ok (.invokevirtual 62, 3) := by decide +kernel
theorem dX6_readEither_35 : decode cX6_readEither 35 = .ok (.bipush 102, 2) := by decide +kernel
theorem dX6_readEither_37 : decode cX6_readEither 37 = .ok (.if_icmp .ne 37, 3) := by decide +kernel
theorem dX6_readEither_40 : decode cX6_readEither 40 = .ok (.aload_n 0, 1) := by decide +kernel
theorem dX6_readEither_41 : decode cX6_readEither 41 = .ok (.dup, 1) := by decide +kernel
theorem dX6_readEither_42 : decode cX6_readEither 42 = .ok (.getfield 82, 3) := by decide +kernel
theorem dX6_readEither_45 : decode cX6_readEither 45 = .ok (.iconst 1, 1) := by decide +kernel
theorem dX6_readEither_46 : decode cX6_readEither 46 = .ok (.iadd, 1) := by decide +kernel
theorem dX6_readEither_47 : decode cX6_readEither 47 = .ok (.putfield 82, 3) := by decide +kernel
theorem dX6_readEither_50 : decode cX6_readEither 50 = .ok (.aload_n 0, 1) := by decide +kernel
theorem dX6_readEither_51 : decode cX6_readEither 51 = .ok (.aload_n 1, 1) := by decide +kernel
theorem dX6_readEither_52 : decode cX6_readEither 52 = .ok (.iload_n 2, 1) := by decide +kernel
theorem dX6_readEither_53 : decode cX6_readEither 53 = .ok (.invokevirtual 205, 3) := by decide +kernel
theorem dX6_readEither_56 : decode cX6_readEither 56 = .ok (.ifCond .ne 5, 3) := by decide +kernel
theorem dX6_readEither_59 : decode cX6_readEither 59 = .ok (.iconst 0, 1) := by decide +kernel
theorem dX6_readEither_60 : decode cX6_readEither 60 = .ok (.ireturn, 1) := by decide +kernel
theorem dX6_readEither_61 : decode cX6_readEither 61 = .ok (.aload_n 1, 1) := by decide +kernel
theorem dX6_readEither_62 : decode cX6_readEither 62 = .ok (.sipush 20102, 3) := by decide +kernel
theorem dX6_readEither_65 : decode cX6_readEither 65 = .ok (.invokevirtual 208, 3) := by decide +kernel
theorem dX6_readEither_68 : decode cX6_readEither 68 = .ok (.iinc 4 1, 3) := by decide +kernel
theorem dX6_readEither_71 : decode cX6_readEither 71 = .ok (.goto (-48), 3) := by decide +kernel
theorem dX6_readEither_74 : decode cX6_readEither 74 = .ok (.iload_n 3, 1) := by decide +kernel
theorem dX6_readEither_75 : decode cX6_readEither 75 = .ok (.ifCond .le 10, 3) := by decide +kernel
theorem dX6_readEither_78 : decode cX6_readEither 78 = .ok (.aload_n 1, 1) := by decide +kernel
theorem dX6_readEither_79 : decode cX6_readEither 79 = .ok (.sipush 20101, 3) := by decide +kernel
theorem dX6_readEither_82 : decode cX6_readEither 82 = .ok (.invokevirtual 208, 3) := by decide +kernel
theorem dX6_readEither_85 : decode cX6_readEither 85 = .ok (.aload_n 0, 1) := by decide +kernel
theorem dX6_readEither_86 : decode cX6_readEither 86 = .ok (.invokevirtual 62, 3) := by decide +kernel
theorem dX6_readEither_89 : decode cX6_readEither 89 = .ok (.bipush 101, 2) := by decide +kernel
theorem dX6_readEither_91 : decode cX6_readEither 91 = .ok (.if_icmp .eq 5, 3) := by decide +kernel
theorem dX6_readEither_94 : decode cX6_readEither 94 = .ok (.iconst 1, 1) := by decide +kernel
theorem dX6_readEither_95 : decode cX6_readEither 95 = .ok (.ireturn, 1) := by decide +kernel
theorem dX6_readEither_96 : decode cX6_readEither 96 = .ok (.aload_n 0, 1) := by decide +kernel
theorem dX6_readEither_97 : decode cX6_readEither 97 = .ok (.dup, 1) := by decide +kernel
theorem dX6_readEither_98 : decode cX6_readEither 98 = .ok (.getfield 82, 3) := by decide +kernel
theorem dX6_readEither_101 : decode cX6_readEither 101 = .ok (.iconst 1, 1) := by decide +kernel
theorem dX6_readEither_102 : decode cX6_readEither 102 = .ok (.iadd, 1) := by decide +kernel
theorem dX6_readEither_103 : decode cX6_readEither 103 = .ok (.putfield 82, 3) := by decide +kernel
theorem dX6_readEither_106 : decode cX6_readEither 106 = .ok (.iinc 3 1, 3) := by decide +kernel
theorem dX6_readEither_109 : decode cX6_readEither 109 = .ok (.goto (-107), 3) := by decide +kernel
theorem dX6_readEither_112 : decode cX6_readEither 112 = .ok (.iconst 0, 1) := by decide +kernel
theorem dX6_readEither_113 : decode cX6_readEither 113 = .ok (.ireturn, 1) := by decide +kernel
theorem dX6_readCondition_0 : decode cX6_readCondition 0 = .ok (.aload_n 0, 1) := by decide +kernel
theorem dX6_readCondition_1 : decode cX6_readCondition 1 = .ok (.invokevirtual 62, 3) := by decide +kernel
theorem dX6_readCondition_4 : decode cX6_readCondition 4 = .ok (.istore_n 3, 1) := by decide +kernel
theorem dX6_readCondition_5 : decode cX6_readCondition 5 = .ok (.iload_n 3, 1) := by decide +kernel
theorem dX6_readCondition_6 : decode cX6_readCondition 6 = .ok (.bipush 103, 2) := by decide +kernel
theorem dX6_readCondition_8 : decode cX6_readCondition 8 = .ok (.if_icmp .eq 9, 3) := by decide +kernel
theorem dX6_readCondition_11 : decode cX6_readCondition 11 = .ok (.iload_n 3, 1) := by decide +kernel
theorem dX6_readCondition_12 : decode cX6_readCondition 12 = .ok (.bipush 40, 2) := by decide +kernel
theorem dX6_readCondition_14 : decode cX6_readCondition 14 = .ok (.if_icmp .ne 79, 3) := by decide +kernel
theorem dX6_readCondition_17 : decode cX6_readCondition 17 = .ok (.iload_n 2, 1) := by decide +kernel
theorem dX6_readCondition_18 : decode cX6_readCondition 18 = .ok (.bipush 8, 2) := by decide +kernel
theorem dX6_readCondition_20 : decode cX6_readCondition 20 = .ok (.if_icmp .lt 9, 3) := by decide +kernel
theorem dX6_readCondition_23 : decode cX6_readCondition 23 = .ok (.aload_n 0, 1) := by decide +kernel
theorem dX6_readCondition_24 : decode cX6_readCondition 24 = .ok (.iconst 3, 1) := by decide +kernel
theorem dX6_readCondition_25 : decode cX6_readCondition 25 = .ok (.invokevirtual 145, 3) := by decide +kernel
theorem dX6_readCondition_28 : decode cX6_readCondition 28 = .ok (.ireturn, 1) := by decide +kernel
theorem dX6_readCondition_29 : decode cX6_readCondition 29 = .ok (.aload_n 0, 1) := by decide +kernel
theorem dX6_readCondition_30 : decode cX6_readCondition 30 = .ok (.dup, 1) := by decide +kernel
theorem dX6_readCondition_31 : decode cX6_readCondition 31 = .ok (.getfield 82, 3) := by decide +kernel
theorem dX6_readCondition_34 : decode cX6_readCondition 34 = .ok (.iconst 1, 1) := by decide +kernel
theorem dX6_readCondition_35 : decode cX6_readCondition 35 = .ok (.iadd, 1) := by decide +kernel
theorem dX6_readCondition_36 : decode cX6_readCondition 36 = .ok (.putfield 82, 3) := by decide +kernel
theorem dX6_readCondition_39 : decode cX6_readCondition 39 = .ok (.iload_n 3, 1) := by decide +kernel
theorem dX6_readCondition_40 : decode cX6_readCondition 40 = .ok (.bipush 40, 2) := by decide +kernel
theorem dX6_readCondition_42 : decode cX6_readCondition 42 = .ok (.if_icmp .ne 29, 3) := by decide +kernel
theorem dX6_readCondition_45 : decode cX6_readCondition 45 = .ok (.aload_n 0, 1) := by decide +kernel
theorem dX6_readCondition_46 : decode cX6_readCondition 46 = .ok (.aload_n 1, 1) := by decide +kernel
theorem dX6_readCondition_47 : decode cX6_readCondition 47 = .ok (.iload_n 2, 1) := by decide +kernel
theorem dX6_readCondition_48 : decode cX6_readCondition 48 = .ok (.iconst 1, 1) := by decide +kernel
theorem dX6_readCondition_49 : decode cX6_readCondition 49 = .ok (.iadd, 1) := by decide +kernel
theorem dX6_readCondition_50 : decode cX6_readCondition 50 = .ok (.invokevirtual 198, 3) := by decide +kernel
theorem dX6_readCondition_53 : decode cX6_readCondition 53 = .ok (.ifCond .eq 16, 3) := by decide +kernel
theorem dX6_readCondition_56 : decode cX6_readCondition 56 = .ok (.aload_n 0, 1) := by decide +kernel
theorem dX6_readCondition_57 : decode cX6_readCondition 57 = .ok (.bipush 41, 2) := by decide +kernel
theorem dX6_readCondition_59 : decode cX6_readCondition 59 = .ok (.invokevirtual 161, 3) := by decide +kernel
theorem dX6_readCondition_62 : decode cX6_readCondition 62 = .ok (.ifCond .eq 7, 3) := by decide +kernel
theorem dX6_readCondition_65 : decode cX6_readCondition 65 = .ok (.iconst 1, 1) := by decide +kernel
theorem dX6_readCondition_66 : decode cX6_readCondition 66 = .ok (.goto 4, 3) := by decide +kernel
theorem dX6_readCondition_69 : decode cX6_readCondition 69 = .ok (.iconst 0, 1) := by decide +kernel
theorem dX6_readCondition_70 : decode cX6_readCondition 70 = .ok (.ireturn, 1) := by decide +kernel
theorem dX6_readCondition_71 : decode cX6_readCondition 71 = .ok (.aload_n 0, 1) := by decide +kernel
theorem dX6_readCondition_72 : decode cX6_readCondition 72 = .ok (.aload_n 1, 1) := by decide +kernel
theorem dX6_readCondition_73 : decode cX6_readCondition 73 = .ok (.iload_n 2, 1) := by decide +kernel
theorem dX6_readCondition_74 : decode cX6_readCondition 74 = .ok (.iconst 1, 1) := by decide +kernel
theorem dX6_readCondition_75 : decode cX6_readCondition 75 = .ok (.iadd, 1) := by decide +kernel
theorem dX6_readCondition_76 : decode cX6_readCondition 76 = .ok (.invokevirtual 205, 3) := by decide +kernel
theorem dX6_readCondition_79 : decode cX6_readCondition 79 = .ok (.ifCond .ne 5, 3) := by decide +kernel
theorem dX6_readCondition_82 : decode cX6_readCondition 82 = .ok (.iconst 0, 1) := by decide +kernel
theorem dX6_readCondition_83 : decode cX6_readCondition 83 = .ok (.ireturn, 1) := by decide +kernel
theorem dX6_readCondition_84 : decode cX6_readCondition 84 = .ok (.aload_n 1, 1) := by decide +kernel
theorem dX6_readCondition_85 : decode cX6_readCondition 85 = .ok (.sipush 20103, 3) := by decide +kernel
theorem dX6_readCondition_88 : decode cX6_readCondition 88 = .ok (.invokevirtual 208, 3) := by decide +kernel
theorem dX6_readCondition_91 : decode cX6_readCondition 91 = .ok (.iconst 1, 1) := by decide +kernel
theorem dX6_readCondition_92 : decode cX6_readCondition 92 = .ok (.ireturn, 1) := by decide +kernel
theorem dX6_readCondition_93 : decode cX6_readCondition 93 = .ok (.aload_n 0, 1) := by decide +kernel
theorem dX6_readCondition_94 : decode cX6_readCondition 94 = .ok (.aload_n 1, 1) := by decide +kernel
theorem dX6_readCondition_95 : decode cX6_readCondition 95 = .ok (.invokevirtual 192, 3) := by decide +kernel
theorem dX6_readCondition_98 : decode cX6_readCondition 98 = .ok (.ifCond .ne 5, 3) := by decide +kernel
theorem dX6_readCondition_101 : decode cX6_readCondition 101 = .ok (.iconst 0, 1) := by decide +kernel
theorem dX6_readCondition_102 : decode cX6_readCondition 102 = .ok (.ireturn, 1) := by decide +kernel
theorem dX6_readCondition_103 : decode cX6_readCondition 103 = .ok (.aload_n 0, 1) := by decide +kernel
theorem dX6_readCondition_104 : decode cX6_readCondition 104 = .ok (.invokevirtual 62, 3) := by decide +kernel
theorem dX6_readCondition_107 : decode cX6_readCondition 107 = .ok (.istore 4, 2) := by decide +kernel
theorem dX6_readCondition_109 : decode cX6_readCondition 109 = .ok (.iload 4, 2) := by decide +kernel
theorem dX6_readCondition_111 : decode cX6_readCondition 111 = .ok (.bipush 60, 2) := by decide +kernel
theorem dX6_readCondition_113 : decode cX6_readCondition 113 = .ok (.if_icmp .eq 23, 3) := by decide +kernel
theorem dX6_readCondition_116 : decode cX6_readCondition 116 = .ok (.iload 4, 2) := by decide +kernel
theorem dX6_readCondition_118 : decode cX6_readCondition 118 = .ok (.bipush 61, 2) := by decide +kernel
theorem dX6_readCondition_120 : decode cX6_readCondition 120 = .ok (.if_icmp .eq 16, 3) := by decide +kernel
theorem dX6_readCondition_123 : decode cX6_readCondition 123 = .ok (.iload 4, 2) := by decide +kernel
theorem dX6_readCondition_125 : decode cX6_readCondition 125 = .ok (.bipush 62, 2) := by decide +kernel
theorem dX6_readCondition_127 : decode cX6_readCondition 127 = .ok (.if_icmp .eq 9, 3) := by decide +kernel
theorem dX6_readCondition_130 : decode cX6_readCondition 130 = .ok (.aload_n 0, 1) := by decide +kernel
theorem dX6_readCondition_131 : decode cX6_readCondition 131 = .ok (.iconst 1, 1) := by decide +kernel
theorem dX6_readCondition_132 : decode cX6_readCondition 132 = .ok (.invokevirtual 145, 3) := by decide +kernel
theorem dX6_readCondition_135 : decode cX6_readCondition 135 = .ok (.ireturn, 1) := by decide +kernel
theorem dX6_readCondition_136 : decode cX6_readCondition 136 = .ok (.aload_n 0, 1) := by decide +kernel
theorem dX6_readCondition_137 : decode cX6_readCondition 137 = .ok (.dup, 1) := by decide +kernel
theorem dX6_readCondition_138 : decode cX6_readCondition 138 = .ok (.getfield 82, 3) := by decide +kernel
theorem dX6_readCondition_141 : decode cX6_readCondition 141 = .ok (.iconst 1, 1) := by decide +kernel
theorem dX6_readCondition_142 : decode cX6_readCondition 142 = .ok (.iadd, 1) := by decide +kernel
theorem dX6_readCondition_143 : decode cX6_readCondition 143 = .ok (.putfield 82, 3) := by decide +kernel
theorem dX6_readCondition_146 : decode cX6_readCondition 146 = .ok (.aload_n 0, 1) := by decide +kernel
theorem dX6_readCondition_147 : decode cX6_readCondition 147 = .ok (.aload_n 1, 1) := by decide +kernel
theorem dX6_readCondition_148 : decode cX6_readCondition 148 = .ok (.invokevirtual 192, 3) := by decide +kernel
theorem dX6_readCondition_151 : decode cX6_readCondition 151 = .ok (.ifCond .ne 5, 3) := by decide +kernel
theorem dX6_readCondition_154 : decode cX6_readCondition 154 = .ok (.iconst 0, 1) := by decide +kernel
theorem dX6_readCondition_155 : decode cX6_readCondition 155 = .ok (.ireturn, 1) := by decide +kernel
theorem dX6_readCondition_156 : decode cX6_readCondition 156 = .ok (.aload_n 1, 1) := by decide +kernel
theorem dX6_readCondition_157 : decode cX6_readCondition 157 = .ok (.sipush 20000, 3) := by decide +kernel
theorem dX6_readCondition_160 : decode cX6_readCondition 160 = .ok (.iload 4, 2) := by decide +kernel
theorem dX6_readCondition_162 : decode cX6_readCondition 162 = .ok (.iadd, 1) := by decide +kernel
theorem dX6_readCondition_163 : decode cX6_readCondition 163 = .ok (.invokevirtual 208, 3) := by decide +kernel
theorem dX6_readCondition_166 : decode cX6_readCondition 166 = .ok (.iconst 1, 1) := by decide +kernel
theorem dX6_readCondition_167 : decode cX6_readCondition 167 = .ok (.ireturn, 1) := by decide +kernel
theorem dX6_readSum_0 : decode cX6_readSum 0 = .ok (.iconst 0, 1) := by decide +kernel
theorem dX6_readSum_1 : decode cX6_readSum 1 = .ok (.istore_n 2, 1) := by decide +kernel
theorem dX6_readSum_2 : decode cX6_readSum 2 = .ok (.iconst 0, 1) := by decide +kernel
theorem dX6_readSum_3 : decode cX6_readSum 3 = .ok (.istore_n 3, 1) := by decide +kernel
theorem dX6_readSum_4 : decode cX6_readSum 4 = .ok (.iconst 0, 1) := by decide +kernel
theorem dX6_readSum_5 : decode cX6_readSum 5 = .ok (.istore 4, 2) := by decide +kernel
theorem dX6_readSum_7 : decode cX6_readSum 7 = .ok (.iload 4, 2) := by decide +kernel
theorem dX6_readSum_9 : decode cX6_readSum 9 = .ok (.sipush 400, 3) := by decide +kernel
theorem dX6_readSum_12 : decode cX6_readSum 12 = .ok (.if_icmp .gt 232, 3) := by decide +kernel
theorem dX6_readSum_15 : decode cX6_readSum 15 = .ok (.aload_n 0, 1) := by decide +kernel
theorem dX6_readSum_16 : decode cX6_readSum 16 = .ok (.invokevirtual 62, 3) := by decide +kernel
theorem dX6_readSum_19 : decode cX6_readSum 19 = .ok (.istore 5, 2) := by decide +kernel
theorem dX6_readSum_21 : decode cX6_readSum 21 = .ok (.iload 5, 2) := by decide +kernel
theorem dX6_readSum_23 : decode cX6_readSum 23 = .ok (.bipush 108, 2) := by decide +kernel
theorem dX6_readSum_25 : decode cX6_readSum 25 = .ok (.if_icmp .lt 14, 3) := by decide +kernel
theorem dX6_readSum_28 : decode cX6_readSum 28 = .ok (.iload 5, 2) := by decide +kernel
theorem dX6_readSum_30 : decode cX6_readSum 30 = .ok (.bipush 116, 2) := by decide +kernel
theorem dX6_readSum_32 : decode cX6_readSum 32 = .ok (.if_icmp .ge 7, 3) := by decide +kernel
theorem dX6_readSum_35 : decode cX6_readSum 35 = .ok (.iconst 1, 1) := by decide +kernel
theorem dX6_readSum_36 : decode cX6_readSum 36 = .ok (.goto 4, 3) := by decide +kernel
theorem dX6_readSum_39 : decode cX6_readSum 39 = .ok (.iconst 0, 1) := by decide +kernel
theorem dX6_readSum_40 : decode cX6_readSum 40 = .ok (.istore 6, 2) := by decide +kernel
theorem dX6_readSum_42 : decode cX6_readSum 42 = .ok (.iload 5, 2) := by decide +kernel
theorem dX6_readSum_44 : decode cX6_readSum 44 = .ok (.iconst 2, 1) := by decide +kernel
theorem dX6_readSum_45 : decode cX6_readSum 45 = .ok (.if_icmp .eq 20, 3) := by decide +kernel
theorem dX6_readSum_48 : decode cX6_readSum 48 = .ok (.iload 6, 2) := by decide +kernel
theorem dX6_readSum_50 : decode cX6_readSum 50 = .ok (.ifCond .eq 9, 3) := by decide +kernel
theorem dX6_readSum_53 : decode cX6_readSum 53 = .ok (.iload_n 2, 1) := by decide +kernel
theorem dX6_readSum_54 : decode cX6_readSum 54 = .ok (.bipush 47, 2) := by decide +kernel
theorem dX6_readSum_56 : decode cX6_readSum 56 = .ok (.if_icmp .ne 9, 3) := by decide +kernel
theorem dX6_readSum_59 : decode cX6_readSum 59 = .ok (.aload_n 0, 1) := by decide +kernel
theorem dX6_readSum_60 : decode cX6_readSum 60 = .ok (.iconst 1, 1) := by decide +kernel
theorem dX6_readSum_61 : decode cX6_readSum 61 = .ok (.invokevirtual 145, 3) := by decide +kernel
theorem dX6_readSum_64 : decode cX6_readSum 64 = .ok (.ireturn, 1) := by decide +kernel
theorem dX6_readSum_65 : decode cX6_readSum 65 = .ok (.aload_n 0, 1) := by decide +kernel
theorem dX6_readSum_66 : decode cX6_readSum 66 = .ok (.aload_n 0, 1) := by decide +kernel
theorem dX6_readSum_67 : decode cX6_readSum 67 = .ok (.getfield 22, 3) := by decide +kernel
theorem dX6_readSum_70 : decode cX6_readSum 70 = .ok (.invokevirtual 141, 3) := by decide +kernel
theorem dX6_readSum_73 : decode cX6_readSum 73 = .ok (.istore 7, 2) := by decide +kernel
theorem dX6_readSum_75 : decode cX6_readSum 75 = .ok (.iload_n 2, 1) := by decide +kernel
theorem dX6_readSum_76 : decode cX6_readSum 76 = .ok (.bipush 47, 2) := by decide +kernel
theorem dX6_readSum_78 : decode cX6_readSum 78 = .ok (.if_icmp .ne 14, 3) := by decide +kernel
theorem dX6_readSum_81 : decode cX6_readSum 81 = .ok (.iload 7, 2) := by decide +kernel
theorem dX6_readSum_83 : decode cX6_readSum 83 = .ok (.ifCond .ne 9, 3) := by decide +kernel
theorem dX6_readSum_86 : decode cX6_readSum 86 = .ok (.aload_n 0, 1) := by decide +kernel
theorem dX6_readSum_87 : decode cX6_readSum 87 = .ok (.iconst 2, 1) := by decide +kernel
theorem dX6_readSum_88 : decode cX6_readSum 88 = .ok (.invokevirtual 145, 3) := by decide +kernel
theorem dX6_readSum_91 : decode cX6_readSum 91 = .ok (.ireturn, 1) := by decide +kernel
theorem dX6_readSum_92 : decode cX6_readSum 92 = .ok (.aload_n 1, 1) := by decide +kernel
theorem dX6_readSum_93 : decode cX6_readSum 93 = .ok (.iload 6, 2) := by decide +kernel
theorem dX6_readSum_95 : decode cX6_readSum 95 = .ok (.ifCond .eq 15, 3) := by decide +kernel
theorem dX6_readSum_98 : decode cX6_readSum 98 = .ok (.sipush 10000, 3) := by decide +kernel
theorem dX6_readSum_101 : decode cX6_readSum 101 = .ok (.iload 5, 2) := by decide +kernel
theorem dX6_readSum_103 : decode cX6_readSum 103 = .ok (.iadd, 1) := by decide +kernel
theorem dX6_readSum_104 : decode cX6_readSum 104 = .ok (.bipush 108, 2) := by decide +kernel
theorem dX6_readSum_106 : decode cX6_readSum 106 = .ok (.isub, 1) := by decide +kernel
theorem dX6_readSum_107 : decode cX6_readSum 107 = .ok (.goto 5, 3) := by decide +kernel
theorem dX6_readSum_110 : decode cX6_readSum 110 = .ok (.iload 7, 2) := by decide +kernel
theorem dX6_readSum_112 : decode cX6_readSum 112 = .ok (.invokevirtual 208, 3) := by decide +kernel
theorem dX6_readSum_115 : decode cX6_readSum 115 = .ok (.aload_n 0, 1) := by decide +kernel
theorem dX6_readSum_116 : decode cX6_readSum 116 = .ok (.dup, 1) := by decide +kernel
theorem dX6_readSum_117 : decode cX6_readSum 117 = .ok (.getfield 82, 3) := by decide +kernel
theorem dX6_readSum_120 : decode cX6_readSum 120 = .ok (.iconst 1, 1) := by decide +kernel
theorem dX6_readSum_121 : decode cX6_readSum 121 = .ok (.iadd, 1) := by decide +kernel
theorem dX6_readSum_122 : decode cX6_readSum 122 = .ok (.putfield 82, 3) := by decide +kernel
theorem dX6_readSum_125 : decode cX6_readSum 125 = .ok (.iload_n 2, 1) := by decide +kernel
theorem dX6_readSum_126 : decode cX6_readSum 126 = .ok (.ifCond .eq 12, 3) := by decide +kernel
theorem dX6_readSum_129 : decode cX6_readSum 129 = .ok (.aload_n 1, 1) := by decide +kernel
theorem dX6_readSum_130 : decode cX6_readSum 130 = .ok (.sipush 20000, 3) := by decide +kernel
theorem dX6_readSum_133 : decode cX6_readSum 133 = .ok (.iload_n 2, 1) := by decide +kernel
theorem dX6_readSum_134 : decode cX6_readSum 134 = .ok (.iadd, 1) := by decide +kernel
theorem dX6_readSum_135 : decode cX6_readSum 135 = .ok (.invokevirtual 208, 3) := by decide +kernel
theorem dX6_readSum_138 : decode cX6_readSum 138 = .ok (.aload_n 0, 1) := by decide +kernel
theorem dX6_readSum_139 : decode cX6_readSum 139 = .ok (.invokevirtual 62, 3) := by decide +kernel
theorem dX6_readSum_142 : decode cX6_readSum 142 = .ok (.bipush 42, 2) := by decide +kernel
theorem dX6_readSum_144 : decode cX6_readSum 144 = .ok (.if_icmp .eq 12, 3) := by decide +kernel
theorem dX6_readSum_147 : decode cX6_readSum 147 = .ok (.aload_n 0, 1) := by decide +kernel
theorem dX6_readSum_148 : decode cX6_readSum 148 = .ok (.invokevirtual 62, 3) := by decide +kernel
theorem dX6_readSum_151 : decode cX6_readSum 151 = .ok (.bipush 47, 2) := by decide +kernel
theorem dX6_readSum_153 : decode cX6_readSum 153 = .ok (.if_icmp .ne 10, 3) := by decide +kernel
theorem dX6_readSum_156 : decode cX6_readSum 156 = .ok (.aload_n 0, 1) := by decide +kernel
theorem dX6_readSum_157 : decode cX6_readSum 157 = .ok (.invokevirtual 62, 3) := by decide +kernel
theorem dX6_readSum_160 : decode cX6_readSum 160 = .ok (.goto 4, 3) := by decide +kernel
theorem dX6_readSum_163 : decode cX6_readSum 163 = .ok (.iconst 0, 1) := by decide +kernel
theorem dX6_readSum_164 : decode cX6_readSum 164 = .ok (.istore_n 2, 1) := by decide +kernel
theorem dX6_readSum_165 : decode cX6_readSum 165 = .ok (.iload_n 2, 1) := by decide +kernel
theorem dX6_readSum_166 : decode cX6_readSum 166 = .ok (.ifCond .eq 16, 3) := by decide +kernel
theorem dX6_readSum_169 : decode cX6_readSum 169 = .ok (.aload_n 0, 1) := by decide +kernel
theorem dX6_readSum_170 : decode cX6_readSum 170 = .ok (.dup, 1) := by decide +kernel
theorem dX6_readSum_171 : decode cX6_readSum 171 = .ok (.getfield 82, 3) := by decide +kernel
theorem dX6_readSum_174 : decode cX6_readSum 174 = .ok (.iconst 1, 1) := by decide +kernel
theorem dX6_readSum_175 : decode cX6_readSum 175 = .ok (.iadd, 1) := by decide +kernel
theorem dX6_readSum_176 : decode cX6_readSum 176 = .ok (.putfield 82, 3) := by decide +kernel
theorem dX6_readSum_179 : decode cX6_readSum 179 = .ok (.goto 59, 3) := by decide +kernel
theorem dX6_readSum_182 : decode cX6_readSum 182 = .ok (.iload_n 3, 1) := by decide +kernel
theorem dX6_readSum_183 : decode cX6_readSum 183 = .ok (.ifCond .eq 12, 3) := by decide +kernel
theorem dX6_readSum_186 : decode cX6_readSum 186 = .ok (.aload_n 1, 1) := by decide +kernel
theorem dX6_readSum_187 : decode cX6_readSum 187 = .ok (.sipush 20000, 3) := by decide +kernel
theorem dX6_readSum_190 : decode cX6_readSum 190 = .ok (.iload_n 3, 1) := by decide +kernel
theorem dX6_readSum_191 : decode cX6_readSum 191 = .ok (.iadd, 1) := by decide +kernel
theorem dX6_readSum_192 : decode cX6_readSum 192 = .ok (.invokevirtual 208, 3) := by decide +kernel
theorem dX6_readSum_195 : decode cX6_readSum 195 = .ok (.aload_n 0, 1) := by decide +kernel
theorem dX6_readSum_196 : decode cX6_readSum 196 = .ok (.invokevirtual 62, 3) := by decide +kernel
theorem dX6_readSum_199 : decode cX6_readSum 199 = .ok (.bipush 43, 2) := by decide +kernel
theorem dX6_readSum_201 : decode cX6_readSum 201 = .ok (.if_icmp .eq 12, 3) := by decide +kernel
theorem dX6_readSum_204 : decode cX6_readSum 204 = .ok (.aload_n 0, 1) := by decide +kernel
theorem dX6_readSum_205 : decode cX6_readSum 205 = .ok (.invokevirtual 62, 3) := by decide +kernel
theorem dX6_readSum_208 : decode cX6_readSum 208 = .ok (.bipush 45, 2) := by decide +kernel
theorem dX6_readSum_210 : decode cX6_readSum 210 = .ok (.if_icmp .ne 10, 3) := by decide +kernel
theorem dX6_readSum_213 : decode cX6_readSum 213 = .ok (.aload_n 0, 1) := by decide +kernel
theorem dX6_readSum_214 : decode cX6_readSum 214 = .ok (.invokevirtual 62, 3) := by decide +kernel
theorem dX6_readSum_217 : decode cX6_readSum 217 = .ok (.goto 4, 3) := by decide +kernel
theorem dX6_readSum_220 : decode cX6_readSum 220 = .ok (.iconst 0, 1) := by decide +kernel
theorem dX6_readSum_221 : decode cX6_readSum 221 = .ok (.istore_n 3, 1) := by decide +kernel
theorem dX6_readSum_222 : decode cX6_readSum 222 = .ok (.iload_n 3, 1) := by decide +kernel
theorem dX6_readSum_223 : decode cX6_readSum 223 = .ok (.ifCond .ne 5, 3) := by decide +kernel
theorem dX6_readSum_226 : decode cX6_readSum 226 = .ok (.iconst 1, 1) := by decide +kernel
theorem dX6_readSum_227 : decode cX6_readSum 227 = .ok (.ireturn, 1) := by decide +kernel
theorem dX6_readSum_228 : decode cX6_readSum 228 = .ok (.aload_n 0, 1) := by decide +kernel
theorem dX6_readSum_229 : decode cX6_readSum 229 = .ok (.dup, 1) := by decide +kernel
theorem dX6_readSum_230 : decode cX6_readSum 230 = .ok (.getfield 82, 3) := by decide +kernel
theorem dX6_readSum_233 : decode cX6_readSum 233 = .ok (.iconst 1, 1) := by decide +kernel
theorem dX6_readSum_234 : decode cX6_readSum 234 = .ok (.iadd, 1) := by decide +kernel
theorem dX6_readSum_235 : decode cX6_readSum 235 = .ok (.putfield 82, 3) := by decide +kernel
theorem dX6_readSum_238 : decode cX6_readSum 238 = .ok (.iinc 4 1, 3) := by decide +kernel
theorem dX6_readSum_241 : decode cX6_readSum 241 = .ok (.goto (-234), 3) := by decide +kernel
theorem dX6_readSum_244 : decode cX6_readSum 244 = .ok (.iconst 0, 1) := by decide +kernel
theorem dX6_readSum_245 : decode cX6_readSum 245 = .ok (.ireturn, 1) := by decide +kernel
theorem dX8_init_0 : decode cX8_init 0 = .ok (.aload_n 0, 1) := by decide +kernel
theorem dX8_init_1 : decode cX8_init 1 = .ok (.invokespecial 3, 3) := by decide +kernel
theorem dX8_init_4 : decode cX8_init 4 = .ok (.aload_n 0, 1) := by decide +kernel
theorem dX8_init_5 : decode cX8_init 5 = .ok (.bipush 14, 2) := by decide +kernel
theorem dX8_init_7 : decode cX8_init 7 = .ok (.newarray .int, 2) := by decide +kernel
theorem dX8_init_9 : decode cX8_init 9 = .ok (.putfield 9, 3) := by decide +kernel
theorem dX8_init_12 : decode cX8_init 12 = .ok (.aload_n 0, 1) := by decide +kernel
theorem dX8_init_13 : decode cX8_init 13 = .ok (.bipush 14, 2) := by decide +kernel
theorem dX8_init_15 : decode cX8_init 15 = .ok (.newarray .int, 2) := by decide +kernel
theorem dX8_init_17 : decode cX8_init 17 = .ok (.putfield 15, 3) := by decide +kernel
theorem dX8_init_20 : decode cX8_init 20 = .ok (.aload_n 0, 1) := by decide +kernel
theorem dX8_init_21 : decode cX8_init 21 = .ok (.bipush 100, 2) := by decide +kernel
theorem dX8_init_23 : decode cX8_init 23 = .ok (.newarray .int, 2) := by decide +kernel
theorem dX8_init_25 : decode cX8_init 25 = .ok (.putfield 18, 3) := by decide +kernel
theorem dX8_init_28 : decode cX8_init 28 = .ok (.aload_n 0, 1) := by decide +kernel
theorem dX8_init_29 : decode cX8_init 29 = .ok (.new 21, 3) := by decide +kernel
theorem dX8_init_32 : decode cX8_init 32 = .ok (.dup, 1) := by decide +kernel
theorem dX8_init_33 : decode cX8_init 33 = .ok (.invokespecial 23, 3) := by decide +kernel
theorem dX8_init_36 : decode cX8_init 36 = .ok (.putfield 24, 3) := by decide +kernel
theorem dX8_init_39 : decode cX8_init 39 = .ok (.aload_n 0, 1) := by decide +kernel
theorem dX8_init_40 : decode cX8_init 40 = .ok (.new 28, 3) := by decide +kernel
theorem dX8_init_43 : decode cX8_init 43 = .ok (.dup, 1) := by decide +kernel
theorem dX8_init_44 : decode cX8_init 44 = .ok (.sipush 150, 3) := by decide +kernel
theorem dX8_init_47 : decode cX8_init 47 = .ok (.invokespecial 30, 3) := by decide +kernel
theorem dX8_init_50 : decode cX8_init 50 = .ok (.putfield 33, 3) := by decide +kernel
theorem dX8_init_53 : decode cX8_init 53 = .ok (.aload_n 0, 1) := by decide +kernel
theorem dX8_init_54 : decode cX8_init 54 = .ok (.new 28, 3) := by decide +kernel
theorem dX8_init_57 : decode cX8_init 57 = .ok (.dup, 1) := by decide +kernel
theorem dX8_init_58 : decode cX8_init 58 = .ok (.bipush 16, 2) := by decide +kernel
theorem dX8_init_60 : decode cX8_init 60 = .ok (.invokespecial 30, 3) := by decide +kernel
theorem dX8_init_63 : decode cX8_init 63 = .ok (.putfield 37, 3) := by decide +kernel
theorem dX8_init_66 : decode cX8_init 66 = .ok (.aload_n 0, 1) := by decide +kernel
theorem dX8_init_67 : decode cX8_init 67 = .ok (.new 28, 3) := by decide +kernel
theorem dX8_init_70 : decode cX8_init 70 = .ok (.dup, 1) := by decide +kernel
theorem dX8_init_71 : decode cX8_init 71 = .ok (.bipush 12, 2) := by decide +kernel
theorem dX8_init_73 : decode cX8_init 73 = .ok (.invokespecial 30, 3) := by decide +kernel
theorem dX8_init_76 : decode cX8_init 76 = .ok (.putfield 40, 3) := by decide +kernel
theorem dX8_init_79 : decode cX8_init 79 = .ok (.aload_n 0, 1) := by decide +kernel
theorem dX8_init_80 : decode cX8_init 80 = .ok (.new 28, 3) := by decide +kernel
theorem dX8_init_83 : decode cX8_init 83 = .ok (.dup, 1) := by decide +kernel
theorem dX8_init_84 : decode cX8_init 84 = .ok (.bipush 10, 2) := by decide +kernel
theorem dX8_init_86 : decode cX8_init 86 = .ok (.invokespecial 30, 3) := by decide +kernel
theorem dX8_init_89 : decode cX8_init 89 = .ok (.putfield 43, 3) := by decide +kernel
theorem dX8_init_92 : decode cX8_init 92 = .ok (.aload_n 0, 1) := by decide +kernel
theorem dX8_init_93 : decode cX8_init 93 = .ok (.new 46, 3) := by decide +kernel
theorem dX8_init_96 : decode cX8_init 96 = .ok (.dup, 1) := by decide +kernel
theorem dX8_init_97 : decode cX8_init 97 = .ok (.invokespecial 48, 3) := by decide +kernel
theorem dX8_init_100 : decode cX8_init 100 = .ok (.putfield 49, 3) := by decide +kernel
theorem dX8_init_103 : decode cX8_init 103 = .ok (.aload_n 0, 1) := by decide +kernel
theorem dX8_init_104 : decode cX8_init 104 = .ok (.new 53, 3) := by decide +kernel
theorem dX8_init_107 : decode cX8_init 107 = .ok (.dup, 1) := by decide +kernel
theorem dX8_init_108 : decode cX8_init 108 = .ok (.invokespecial 55, 3) := by decide +kernel
theorem dX8_init_111 : decode cX8_init 111 = .ok (.putfield 56, 3) := by decide +kernel
theorem dX8_init_114 : decode cX8_init 114 = .ok (.aload_n 0, 1) := by decide +kernel
theorem dX8_init_115 : decode cX8_init 115 = .ok (.bipush 8, 2) := by decide +kernel
theorem dX8_init_117 : decode cX8_init 117 = .ok (.newarray .int, 2) := by decide +kernel
theorem dX8_init_119 : decode cX8_init 119 = .ok (.putfield 60, 3) := by decide +kernel
theorem dX8_init_122 : decode cX8_init 122 = .ok (.iconst 0, 1) := by decide +kernel
theorem dX8_init_123 : decode cX8_init 123 = .ok (.istore_n 1, 1) := by decide +kernel
theorem dX8_init_124 : decode cX8_init 124 = .ok (.iload_n 1, 1) := by decide +kernel
theorem dX8_init_125 : decode cX8_init 125 = .ok (.bipush 100, 2) := by decide +kernel
theorem dX8_init_127 : decode cX8_init 127 = .ok (.if_icmp .ge 32, 3) := by decide +kernel
theorem dX8_init_130 : decode cX8_init 130 = .ok (.aload_n 0, 1) := by decide +kernel
theorem dX8_init_131 : decode cX8_init 131 = .ok (.getfield 18, 3) := by decide +kernel
theorem dX8_init_134 : decode cX8_init 134 = .ok (.iload_n 1, 1) := by decide +kernel
theorem dX8_init_135 : decode cX8_init 135 = .ok (.iload_n 1, 1) := by decide +kernel
theorem dX8_init_136 : decode cX8_init 136 = .ok (.bipush 10, 2) := by decide +kernel
theorem dX8_init_138 : decode cX8_init 138 = .ok (.idiv, 1) := by decide +kernel
theorem dX8_init_139 : decode cX8_init 139 = .ok (.iload_n 1, 1) := by decide +kernel
theorem dX8_init_140 : decode cX8_init 140 = .ok (.bipush 10, 2) := by decide +kernel
theorem dX8_init_142 : decode cX8_init 142 = .ok (.irem, 1) := by decide +kernel
theorem dX8_init_143 : decode cX8_init 143 = .ok (.if_icmp .ne 7, 3) := by decide +kernel
theorem dX8_init_146 : decode cX8_init 146 = .ok (.iconst 0, 1) := by decide +kernel
theorem dX8_init_147 : decode cX8_init 147 = .ok (.goto 5, 3) := by decide +kernel
theorem dX8_init_150 : decode cX8_init 150 = .ok (.bipush 10, 2) := by decide +kernel
theorem dX8_init_152 : decode cX8_init 152 = .ok (.iastore, 1) := by decide +kernel
theorem dX8_init_153 : decode cX8_init 153 = .ok (.iinc 1 1, 3) := by decide +kernel
theorem dX8_init_156 : decode cX8_init 156 = .ok (.goto (-32), 3) := by decide +kernel
theorem dX8_init_159 : decode cX8_init 159 = .ok (.return_, 1) := by decide +kernel
theorem dX8_isIn_0 : decode cX8_isIn 0 = .ok (.iload_n 1, 1) := by decide +kernel
theorem dX8_isIn_1 : decode cX8_isIn 1 = .ok (.ifCond .lt 21, 3) := by decide +kernel
theorem dX8_isIn_4 : decode cX8_isIn 4 = .ok (.iload_n 1, 1) := by decide +kernel
theorem dX8_isIn_5 : decode cX8_isIn 5 = .ok (.bipush 32, 2) := by decide +kernel
theorem dX8_isIn_7 : decode cX8_isIn 7 = .ok (.if_icmp .ge 15, 3) := by decide +kernel
theorem dX8_isIn_10 : decode cX8_isIn 10 = .ok (.iload_n 0, 1) := by decide +kernel
theorem dX8_isIn_11 : decode cX8_isIn 11 = .ok (.iload_n 1, 1) := by decide +kernel
theorem dX8_isIn_12 : decode cX8_isIn 12 = .ok (.ishr, 1) := by decide +kernel
theorem dX8_isIn_13 : decode cX8_isIn 13 = .ok (.iconst 1, 1) := by decide +kernel
theorem dX8_isIn_14 : decode cX8_isIn 14 = .ok (.iand, 1) := by decide +kernel
theorem dX8_isIn_15 : decode cX8_isIn 15 = .ok (.ifCond .eq 7, 3) := by decide +kernel
theorem dX8_isIn_18 : decode cX8_isIn 18 = .ok (.iconst 1, 1) := by decide +kernel
theorem dX8_isIn_19 : decode cX8_isIn 19 = .ok (.goto 4, 3) := by decide +kernel
theorem dX8_isIn_22 : decode cX8_isIn 22 = .ok (.iconst 0, 1) := by decide +kernel
theorem dX8_isIn_23 : decode cX8_isIn 23 = .ok (.ireturn, 1) := by decide +kernel
theorem dX8_isPlace_0 : decode cX8_isPlace 0 = .ok (.iload_n 0, 1) := by decide +kernel
theorem dX8_isPlace_1 : decode cX8_isPlace 1 = .ok (.ifCond .lt 13, 3) := by decide +kernel
theorem dX8_isPlace_4 : decode cX8_isPlace 4 = .ok (.iload_n 0, 1) := by decide +kernel
theorem dX8_isPlace_5 : decode cX8_isPlace 5 = .ok (.bipush 10, 2) := by decide +kernel
theorem dX8_isPlace_7 : decode cX8_isPlace 7 = .ok (.if_icmp .ge 7, 3) := by decide +kernel
theorem dX8_isPlace_10 : decode cX8_isPlace 10 = .ok (.iconst 1, 1) := by decide +kernel
theorem dX8_isPlace_11 : decode cX8_isPlace 11 = .ok (.goto 4, 3) := by decide +kernel
theorem dX8_isPlace_14 : decode cX8_isPlace 14 = .ok (.iconst 0, 1) := by decide +kernel
theorem dX8_isPlace_15 : decode cX8_isPlace 15 = .ok (.ireturn, 1) := by decide +kernel
theorem dX8_hasWord_0 : decode cX8_hasWord 0 = .ok (.iload_n 1, 1) := by decide +kernel
theorem dX8_hasWord_1 : decode cX8_hasWord 1 = .ok (.ifCond .lt 15, 3) := by decide +kernel
theorem dX8_hasWord_4 : decode cX8_hasWord 4 = .ok (.iload_n 1, 1) := by decide +kernel
theorem dX8_hasWord_5 : decode cX8_hasWord 5 = .ok (.aload_n 0, 1) := by decide +kernel
theorem dX8_hasWord_6 : decode cX8_hasWord 6 = .ok (.getfield 63, 3) := by decide +kernel
theorem dX8_hasWord_9 : decode cX8_hasWord 9 = .ok (.if_icmp .ge 7, 3) := by decide +kernel
theorem dX8_hasWord_12 : decode cX8_hasWord 12 = .ok (.iconst 1, 1) := by decide +kernel
theorem dX8_hasWord_13 : decode cX8_hasWord 13 = .ok (.goto 4, 3) := by decide +kernel
theorem dX8_hasWord_16 : decode cX8_hasWord 16 = .ok (.iconst 0, 1) := by decide +kernel
theorem dX8_hasWord_17 : decode cX8_hasWord 17 = .ok (.ireturn, 1) := by decide +kernel
theorem dX8_hasPerson_0 : decode cX8_hasPerson 0 = .ok (.iload_n 1, 1) := by decide +kernel
theorem dX8_hasPerson_1 : decode cX8_hasPerson 1 = .ok (.ifCond .lt 15, 3) := by decide +kernel
theorem dX8_hasPerson_4 : decode cX8_hasPerson 4 = .ok (.iload_n 1, 1) := by decide +kernel
theorem dX8_hasPerson_5 : decode cX8_hasPerson 5 = .ok (.aload_n 0, 1) := by decide +kernel
theorem dX8_hasPerson_6 : decode cX8_hasPerson 6 = .ok (.getfield 67, 3) := by decide +kernel
theorem dX8_hasPerson_9 : decode cX8_hasPerson 9 = .ok (.if_icmp .ge 7, 3) := by decide +kernel
theorem dX8_hasPerson_12 : decode cX8_hasPerson 12 = .ok (.iconst 1, 1) := by decide +kernel
theorem dX8_hasPerson_13 : decode cX8_hasPerson 13 = .ok (.goto 4, 3) := by decide +kernel
theorem dX8_hasPerson_16 : decode cX8_hasPerson 16 = .ok (.iconst 0, 1) := by decide +kernel
theorem dX8_hasPerson_17 : decode cX8_hasPerson 17 = .ok (.ireturn, 1) := by decide +kernel
theorem dX8_hasLapsed_0 : decode cX8_hasLapsed 0 = .ok (.aload_n 0, 1) := by decide +kernel
theorem dX8_hasLapsed_1 : decode cX8_hasLapsed 1 = .ok (.getfield 24, 3) := by decide +kernel
theorem dX8_hasLapsed_4 : decode cX8_hasLapsed 4 = .ok (.getfield 92, 3) := by decide +kernel
theorem dX8_hasLapsed_7 : decode cX8_hasLapsed 7 = .ok (.iload_n 1, 1) := by decide +kernel
theorem dX8_hasLapsed_8 : decode cX8_hasLapsed 8 = .ok (.invokestatic 95, 3) := by decide +kernel
theorem dX8_hasLapsed_11 : decode cX8_hasLapsed 11 = .ok (.ireturn, 1) := by decide +kernel
theorem dX8_hasInTongue_0 : decode cX8_hasInTongue 0 = .ok (.aload_n 0, 1) := by decide +kernel
theorem dX8_hasInTongue_1 : decode cX8_hasInTongue 1 = .ok (.iload_n 1, 1) := by decide +kernel
theorem dX8_hasInTongue_2 : decode cX8_hasInTongue 2 = .ok (.invokevirtual 99, 3) := by decide +kernel
theorem dX8_hasInTongue_5 : decode cX8_hasInTongue 5 = .ok (.ifCond .eq 23, 3) := by decide +kernel
theorem dX8_hasInTongue_8 : decode cX8_hasInTongue 8 = .ok (.aload_n 0, 1) := by decide +kernel
theorem dX8_hasInTongue_9 : decode cX8_hasInTongue 9 = .ok (.getfield 24, 3) := by decide +kernel
theorem dX8_hasInTongue_12 : decode cX8_hasInTongue 12 = .ok (.getfield 103, 3) := by decide +kernel
theorem dX8_hasInTongue_15 : decode cX8_hasInTongue 15 = .ok (.iload_n 1, 1) := by decide +kernel
theorem dX8_hasInTongue_16 : decode cX8_hasInTongue 16 = .ok (.iaload, 1) := by decide +kernel
theorem dX8_hasInTongue_17 : decode cX8_hasInTongue 17 = .ok (.iload_n 2, 1) := by decide +kernel
theorem dX8_hasInTongue_18 : decode cX8_hasInTongue 18 = .ok (.invokestatic 95, 3) := by decide +kernel
theorem dX8_hasInTongue_21 : decode cX8_hasInTongue 21 = .ok (.ifCond .eq 7, 3) := by decide +kernel
theorem dX8_hasInTongue_24 : decode cX8_hasInTongue 24 = .ok (.iconst 1, 1) := by decide +kernel
theorem dX8_hasInTongue_25 : decode cX8_hasInTongue 25 = .ok (.goto 4, 3) := by decide +kernel
theorem dX8_hasInTongue_28 : decode cX8_hasInTongue 28 = .ok (.iconst 0, 1) := by decide +kernel
theorem dX8_hasInTongue_29 : decode cX8_hasInTongue 29 = .ok (.ireturn, 1) := by decide +kernel
theorem dX8_living_0 : decode cX8_living 0 = .ok (.iconst 1, 1) := by decide +kernel
theorem dX8_living_1 : decode cX8_living 1 = .ok (.aload_n 0, 1) := by decide +kernel
theorem dX8_living_2 : decode cX8_living 2 = .ok (.getfield 63, 3) := by decide +kernel
theorem dX8_living_5 : decode cX8_living 5 = .ok (.ishl, 1) := by decide +kernel
theorem dX8_living_6 : decode cX8_living 6 = .ok (.iconst 1, 1) := by decide +kernel
theorem dX8_living_7 : decode cX8_living 7 = .ok (.isub, 1) := by decide +kernel
theorem dX8_living_8 : decode cX8_living 8 = .ok (.aload_n 0, 1) := by decide +kernel
theorem dX8_living_9 : decode cX8_living 9 = .ok (.getfield 24, 3) := by decide +kernel
theorem dX8_living_12 : decode cX8_living 12 = .ok (.getfield 92, 3) := by decide +kernel
theorem dX8_living_15 : decode cX8_living 15 = .ok (.iconst (-1), 1) := by decide +kernel
theorem dX8_living_16 : decode cX8_living 16 = .ok (.ixor, 1) := by decide +kernel
theorem dX8_living_17 : decode cX8_living 17 = .ok (.iand, 1) := by decide +kernel
theorem dX8_living_18 : decode cX8_living 18 = .ok (.ireturn, 1) := by decide +kernel
theorem dX8_sayable_0 : decode cX8_sayable 0 = .ok (.aload_n 0, 1) := by decide +kernel
theorem dX8_sayable_1 : decode cX8_sayable 1 = .ok (.getfield 49, 3) := by decide +kernel
theorem dX8_sayable_4 : decode cX8_sayable 4 = .ok (.aload_n 0, 1) := by decide +kernel
theorem dX8_sayable_5 : decode cX8_sayable 5 = .ok (.invokevirtual 106, 3) := by decide +kernel
theorem dX8_sayable_8 : decode cX8_sayable 8 = .ok (.invokevirtual 110, 3) := by decide +kernel
theorem dX8_sayable_11 : decode cX8_sayable 11 = .ok (.ireturn, 1) := by decide +kernel
theorem dX8_addWord_0 : decode cX8_addWord 0 = .ok (.aload_n 0, 1) := by decide +kernel
theorem dX8_addWord_1 : decode cX8_addWord 1 = .ok (.getfield 63, 3) := by decide +kernel
theorem dX8_addWord_4 : decode cX8_addWord 4 = .ok (.bipush 14, 2) := by decide +kernel
theorem dX8_addWord_6 : decode cX8_addWord 6 = .ok (.if_icmp .lt 5, 3) := by decide +kernel
theorem dX8_addWord_9 : decode cX8_addWord 9 = .ok (.iconst (-1), 1) := by decide +kernel
theorem dX8_addWord_10 : decode cX8_addWord 10 = .ok (.ireturn, 1) := by decide +kernel
theorem dX8_addWord_11 : decode cX8_addWord 11 = .ok (.aload_n 0, 1) := by decide +kernel
theorem dX8_addWord_12 : decode cX8_addWord 12 = .ok (.getfield 9, 3) := by decide +kernel
theorem dX8_addWord_15 : decode cX8_addWord 15 = .ok (.aload_n 0, 1) := by decide +kernel
theorem dX8_addWord_16 : decode cX8_addWord 16 = .ok (.getfield 63, 3) := by decide +kernel
theorem dX8_addWord_19 : decode cX8_addWord 19 = .ok (.iload_n 1, 1) := by decide +kernel
theorem dX8_addWord_20 : decode cX8_addWord 20 = .ok (.iastore, 1) := by decide +kernel
theorem dX8_addWord_21 : decode cX8_addWord 21 = .ok (.aload_n 0, 1) := by decide +kernel
theorem dX8_addWord_22 : decode cX8_addWord 22 = .ok (.getfield 15, 3) := by decide +kernel
theorem dX8_addWord_25 : decode cX8_addWord 25 = .ok (.aload_n 0, 1) := by decide +kernel
theorem dX8_addWord_26 : decode cX8_addWord 26 = .ok (.getfield 63, 3) := by decide +kernel
theorem dX8_addWord_29 : decode cX8_addWord 29 = .ok (.iconst 0, 1) := by decide +kernel
theorem dX8_addWord_30 : decode cX8_addWord 30 = .ok (.iastore, 1) := by decide +kernel
theorem dX8_addWord_31 : decode cX8_addWord 31 = .ok (.aload_n 0, 1) := by decide +kernel
theorem dX8_addWord_32 : decode cX8_addWord 32 = .ok (.getfield 24, 3) := by decide +kernel
theorem dX8_addWord_35 : decode cX8_addWord 35 = .ok (.getfield 114, 3) := by decide +kernel
theorem dX8_addWord_38 : decode cX8_addWord 38 = .ok (.aload_n 0, 1) := by decide +kernel
theorem dX8_addWord_39 : decode cX8_addWord 39 = .ok (.getfield 63, 3) := by decide +kernel
theorem dX8_addWord_42 : decode cX8_addWord 42 = .ok (.iconst 0, 1) := by decide +kernel
theorem dX8_addWord_43 : decode cX8_addWord 43 = .ok (.iastore, 1) := by decide +kernel
theorem dX8_addWord_44 : decode cX8_addWord 44 = .ok (.aload_n 0, 1) := by decide +kernel
theorem dX8_addWord_45 : decode cX8_addWord 45 = .ok (.getfield 24, 3) := by decide +kernel
theorem dX8_addWord_48 : decode cX8_addWord 48 = .ok (.getfield 117, 3) := by decide +kernel
theorem dX8_addWord_51 : decode cX8_addWord 51 = .ok (.aload_n 0, 1) := by decide +kernel
theorem dX8_addWord_52 : decode cX8_addWord 52 = .ok (.getfield 63, 3) := by decide +kernel
theorem dX8_addWord_55 : decode cX8_addWord 55 = .ok (.iconst 0, 1) := by decide +kernel
theorem dX8_addWord_56 : decode cX8_addWord 56 = .ok (.iastore, 1) := by decide +kernel
theorem dX8_addWord_57 : decode cX8_addWord 57 = .ok (.aload_n 0, 1) := by decide +kernel
theorem dX8_addWord_58 : decode cX8_addWord 58 = .ok (.dup, 1) := by decide +kernel
theorem dX8_addWord_59 : decode cX8_addWord 59 = .ok (.getfield 63, 3) := by decide +kernel
theorem dX8_addWord_62 : decode cX8_addWord 62 = .ok (.iconst 1, 1) := by decide +kernel
theorem dX8_addWord_63 : decode cX8_addWord 63 = .ok (.iadd, 1) := by decide +kernel
theorem dX8_addWord_64 : decode cX8_addWord 64 = .ok (.putfield 63, 3) := by decide +kernel
theorem dX8_addWord_67 : decode cX8_addWord 67 = .ok (.aload_n 0, 1) := by decide +kernel
theorem dX8_addWord_68 : decode cX8_addWord 68 = .ok (.getfield 63, 3) := by decide +kernel
theorem dX8_addWord_71 : decode cX8_addWord 71 = .ok (.iconst 1, 1) := by decide +kernel
theorem dX8_addWord_72 : decode cX8_addWord 72 = .ok (.isub, 1) := by decide +kernel
theorem dX8_addWord_73 : decode cX8_addWord 73 = .ok (.ireturn, 1) := by decide +kernel
theorem dX8_addPerson_0 : decode cX8_addPerson 0 = .ok (.aload_n 0, 1) := by decide +kernel
theorem dX8_addPerson_1 : decode cX8_addPerson 1 = .ok (.getfield 67, 3) := by decide +kernel
theorem dX8_addPerson_4 : decode cX8_addPerson 4 = .ok (.bipush 10, 2) := by decide +kernel
theorem dX8_addPerson_6 : decode cX8_addPerson 6 = .ok (.if_icmp .lt 5, 3) := by decide +kernel
theorem dX8_addPerson_9 : decode cX8_addPerson 9 = .ok (.iconst (-1), 1) := by decide +kernel
theorem dX8_addPerson_10 : decode cX8_addPerson 10 = .ok (.ireturn, 1) := by decide +kernel
theorem dX8_addPerson_11 : decode cX8_addPerson 11 = .ok (.aload_n 0, 1) := by decide +kernel
theorem dX8_addPerson_12 : decode cX8_addPerson 12 = .ok (.getfield 24, 3) := by decide +kernel
theorem dX8_addPerson_15 : decode cX8_addPerson 15 = .ok (.getfield 120, 3) := by decide +kernel
theorem dX8_addPerson_18 : decode cX8_addPerson 18 = .ok (.aload_n 0, 1) := by decide +kernel
theorem dX8_addPerson_19 : decode cX8_addPerson 19 = .ok (.getfield 67, 3) := by decide +kernel
theorem dX8_addPerson_22 : decode cX8_addPerson 22 = .ok (.iload_n 1, 1) := by decide +kernel
theorem dX8_addPerson_23 : decode cX8_addPerson 23 = .ok (.iastore, 1) := by decide +kernel
theorem dX8_addPerson_24 : decode cX8_addPerson 24 = .ok (.aload_n 0, 1) := by decide +kernel
theorem dX8_addPerson_25 : decode cX8_addPerson 25 = .ok (.getfield 24, 3) := by decide +kernel
theorem dX8_addPerson_28 : decode cX8_addPerson 28 = .ok (.getfield 103, 3) := by decide +kernel
theorem dX8_addPerson_31 : decode cX8_addPerson 31 = .ok (.aload_n 0, 1) := by decide +kernel
theorem dX8_addPerson_32 : decode cX8_addPerson 32 = .ok (.getfield 67, 3) := by decide +kernel
theorem dX8_addPerson_35 : decode cX8_addPerson 35 = .ok (.iconst 0, 1) := by decide +kernel
theorem dX8_addPerson_36 : decode cX8_addPerson 36 = .ok (.iastore, 1) := by decide +kernel
theorem dX8_addPerson_37 : decode cX8_addPerson 37 = .ok (.aload_n 0, 1) := by decide +kernel
theorem dX8_addPerson_38 : decode cX8_addPerson 38 = .ok (.getfield 24, 3) := by decide +kernel
theorem dX8_addPerson_41 : decode cX8_addPerson 41 = .ok (.getfield 123, 3) := by decide +kernel
theorem dX8_addPerson_44 : decode cX8_addPerson 44 = .ok (.aload_n 0, 1) := by decide +kernel
theorem dX8_addPerson_45 : decode cX8_addPerson 45 = .ok (.getfield 67, 3) := by decide +kernel
theorem dX8_addPerson_48 : decode cX8_addPerson 48 = .ok (.bipush 50, 2) := by decide +kernel
theorem dX8_addPerson_50 : decode cX8_addPerson 50 = .ok (.iastore, 1) := by decide +kernel
theorem dX8_addPerson_51 : decode cX8_addPerson 51 = .ok (.aload_n 0, 1) := by decide +kernel
theorem dX8_addPerson_52 : decode cX8_addPerson 52 = .ok (.dup, 1) := by decide +kernel
theorem dX8_addPerson_53 : decode cX8_addPerson 53 = .ok (.getfield 67, 3) := by decide +kernel
theorem dX8_addPerson_56 : decode cX8_addPerson 56 = .ok (.iconst 1, 1) := by decide +kernel
theorem dX8_addPerson_57 : decode cX8_addPerson 57 = .ok (.iadd, 1) := by decide +kernel
theorem dX8_addPerson_58 : decode cX8_addPerson 58 = .ok (.putfield 67, 3) := by decide +kernel
theorem dX8_addPerson_61 : decode cX8_addPerson 61 = .ok (.aload_n 0, 1) := by decide +kernel
theorem dX8_addPerson_62 : decode cX8_addPerson 62 = .ok (.getfield 67, 3) := by decide +kernel
theorem dX8_addPerson_65 : decode cX8_addPerson 65 = .ok (.iconst 1, 1) := by decide +kernel
theorem dX8_addPerson_66 : decode cX8_addPerson 66 = .ok (.isub, 1) := by decide +kernel
theorem dX8_addPerson_67 : decode cX8_addPerson 67 = .ok (.ireturn, 1) := by decide +kernel
theorem dX8_knowers_0 : decode cX8_knowers 0 = .ok (.iconst 0, 1) := by decide +kernel
theorem dX8_knowers_1 : decode cX8_knowers 1 = .ok (.istore_n 2, 1) := by decide +kernel
theorem dX8_knowers_2 : decode cX8_knowers 2 = .ok (.iconst 0, 1) := by decide +kernel
theorem dX8_knowers_3 : decode cX8_knowers 3 = .ok (.istore_n 3, 1) := by decide +kernel
theorem dX8_knowers_4 : decode cX8_knowers 4 = .ok (.iload_n 3, 1) := by decide +kernel
theorem dX8_knowers_5 : decode cX8_knowers 5 = .ok (.aload_n 0, 1) := by decide +kernel
theorem dX8_knowers_6 : decode cX8_knowers 6 = .ok (.getfield 67, 3) := by decide +kernel
theorem dX8_knowers_9 : decode cX8_knowers 9 = .ok (.if_icmp .ge 31, 3) := by decide +kernel
theorem dX8_knowers_12 : decode cX8_knowers 12 = .ok (.aload_n 0, 1) := by decide +kernel
theorem dX8_knowers_13 : decode cX8_knowers 13 = .ok (.getfield 24, 3) := by decide +kernel
theorem dX8_knowers_16 : decode cX8_knowers 16 = .ok (.getfield 103, 3) := by decide +kernel
theorem dX8_knowers_19 : decode cX8_knowers 19 = .ok (.iload_n 3, 1) := by decide +kernel
theorem dX8_knowers_20 : decode cX8_knowers 20 = .ok (.iaload, 1) := by decide +kernel
theorem dX8_knowers_21 : decode cX8_knowers 21 = .ok (.iload_n 1, 1) := by decide +kernel
theorem dX8_knowers_22 : decode cX8_knowers 22 = .ok (.invokestatic 95, 3) := by decide +kernel
theorem dX8_knowers_25 : decode cX8_knowers 25 = .ok (.ifCond .eq 9, 3) := by decide +kernel
theorem dX8_knowers_28 : decode cX8_knowers 28 = .ok (.iload_n 2, 1) := by decide +kernel
theorem dX8_knowers_29 : decode cX8_knowers 29 = .ok (.iconst 1, 1) := by decide +kernel
theorem dX8_knowers_30 : decode cX8_knowers 30 = .ok (.iload_n 3, 1) := by decide +kernel
theorem dX8_knowers_31 : decode cX8_knowers 31 = .ok (.ishl, 1) := by decide +kernel
theorem dX8_knowers_32 : decode cX8_knowers 32 = .ok (.ior, 1) := by decide +kernel
theorem dX8_knowers_33 : decode cX8_knowers 33 = .ok (.istore_n 2, 1) := by decide +kernel
theorem dX8_knowers_34 : decode cX8_knowers 34 = .ok (.iinc 3 1, 3) := by decide +kernel
theorem dX8_knowers_37 : decode cX8_knowers 37 = .ok (.goto (-33), 3) := by decide +kernel
theorem dX8_knowers_40 : decode cX8_knowers 40 = .ok (.iload_n 2, 1) := by decide +kernel
theorem dX8_knowers_41 : decode cX8_knowers 41 = .ok (.ireturn, 1) := by decide +kernel
theorem dX8_peopleAt_0 : decode cX8_peopleAt 0 = .ok (.iconst 0, 1) := by decide +kernel
theorem dX8_peopleAt_1 : decode cX8_peopleAt 1 = .ok (.istore_n 2, 1) := by decide +kernel
theorem dX8_peopleAt_2 : decode cX8_peopleAt 2 = .ok (.iconst 0, 1) := by decide +kernel
theorem dX8_peopleAt_3 : decode cX8_peopleAt 3 = .ok (.istore_n 3, 1) := by decide +kernel
theorem dX8_peopleAt_4 : decode cX8_peopleAt 4 = .ok (.iload_n 3, 1) := by decide +kernel
theorem dX8_peopleAt_5 : decode cX8_peopleAt 5 = .ok (.aload_n 0, 1) := by decide +kernel
theorem dX8_peopleAt_6 : decode cX8_peopleAt 6 = .ok (.getfield 67, 3) := by decide +kernel
theorem dX8_peopleAt_9 : decode cX8_peopleAt 9 = .ok (.if_icmp .ge 28, 3) := by decide +kernel
theorem dX8_peopleAt_12 : decode cX8_peopleAt 12 = .ok (.aload_n 0, 1) := by decide +kernel
theorem dX8_peopleAt_13 : decode cX8_peopleAt 13 = .ok (.getfield 24, 3) := by decide +kernel
theorem dX8_peopleAt_16 : decode cX8_peopleAt 16 = .ok (.getfield 120, 3) := by decide +kernel
theorem dX8_peopleAt_19 : decode cX8_peopleAt 19 = .ok (.iload_n 3, 1) := by decide +kernel
theorem dX8_peopleAt_20 : decode cX8_peopleAt 20 = .ok (.iaload, 1) := by decide +kernel
theorem dX8_peopleAt_21 : decode cX8_peopleAt 21 = .ok (.iload_n 1, 1) := by decide +kernel
theorem dX8_peopleAt_22 : decode cX8_peopleAt 22 = .ok (.if_icmp .ne 9, 3) := by decide +kernel
theorem dX8_peopleAt_25 : decode cX8_peopleAt 25 = .ok (.iload_n 2, 1) := by decide +kernel
theorem dX8_peopleAt_26 : decode cX8_peopleAt 26 = .ok (.iconst 1, 1) := by decide +kernel
theorem dX8_peopleAt_27 : decode cX8_peopleAt 27 = .ok (.iload_n 3, 1) := by decide +kernel
theorem dX8_peopleAt_28 : decode cX8_peopleAt 28 = .ok (.ishl, 1) := by decide +kernel
theorem dX8_peopleAt_29 : decode cX8_peopleAt 29 = .ok (.ior, 1) := by decide +kernel
theorem dX8_peopleAt_30 : decode cX8_peopleAt 30 = .ok (.istore_n 2, 1) := by decide +kernel
theorem dX8_peopleAt_31 : decode cX8_peopleAt 31 = .ok (.iinc 3 1, 3) := by decide +kernel
theorem dX8_peopleAt_34 : decode cX8_peopleAt 34 = .ok (.goto (-30), 3) := by decide +kernel
theorem dX8_peopleAt_37 : decode cX8_peopleAt 37 = .ok (.iload_n 2, 1) := by decide +kernel
theorem dX8_peopleAt_38 : decode cX8_peopleAt 38 = .ok (.ireturn, 1) := by decide +kernel
theorem dX8_lawFor_0 : decode cX8_lawFor 0 = .ok (.aload_n 0, 1) := by decide +kernel
theorem dX8_lawFor_1 : decode cX8_lawFor 1 = .ok (.iload_n 2, 1) := by decide +kernel
theorem dX8_lawFor_2 : decode cX8_lawFor 2 = .ok (.invokevirtual 129, 3) := by decide +kernel
theorem dX8_lawFor_5 : decode cX8_lawFor 5 = .ok (.ifCond .ne 5, 3) := by decide +kernel
theorem dX8_lawFor_8 : decode cX8_lawFor 8 = .ok (.iconst 0, 1) := by decide +kernel
theorem dX8_lawFor_9 : decode cX8_lawFor 9 = .ok (.ireturn, 1) := by decide +kernel
theorem dX8_lawFor_10 : decode cX8_lawFor 10 = .ok (.aload_n 0, 1) := by decide +kernel
theorem dX8_lawFor_11 : decode cX8_lawFor 11 = .ok (.getfield 60, 3) := by decide +kernel
theorem dX8_lawFor_14 : decode cX8_lawFor 14 = .ok (.iconst 0, 1) := by decide +kernel
theorem dX8_lawFor_15 : decode cX8_lawFor 15 = .ok (.iload_n 2, 1) := by decide +kernel
theorem dX8_lawFor_16 : decode cX8_lawFor 16 = .ok (.iastore, 1) := by decide +kernel
theorem dX8_lawFor_17 : decode cX8_lawFor 17 = .ok (.aload_n 0, 1) := by decide +kernel
theorem dX8_lawFor_18 : decode cX8_lawFor 18 = .ok (.getfield 60, 3) := by decide +kernel
theorem dX8_lawFor_21 : decode cX8_lawFor 21 = .ok (.iconst 1, 1) := by decide +kernel
theorem dX8_lawFor_22 : decode cX8_lawFor 22 = .ok (.aload_n 0, 1) := by decide +kernel
theorem dX8_lawFor_23 : decode cX8_lawFor 23 = .ok (.getfield 9, 3) := by decide +kernel
theorem dX8_lawFor_26 : decode cX8_lawFor 26 = .ok (.iload_n 2, 1) := by decide +kernel
theorem dX8_lawFor_27 : decode cX8_lawFor 27 = .ok (.iaload, 1) := by decide +kernel
theorem dX8_lawFor_28 : decode cX8_lawFor 28 = .ok (.iastore, 1) := by decide +kernel
theorem dX8_lawFor_29 : decode cX8_lawFor 29 = .ok (.aload_n 0, 1) := by decide +kernel
theorem dX8_lawFor_30 : decode cX8_lawFor 30 = .ok (.getfield 60, 3) := by decide +kernel
theorem dX8_lawFor_33 : decode cX8_lawFor 33 = .ok (.iconst 2, 1) := by decide +kernel
theorem dX8_lawFor_34 : decode cX8_lawFor 34 = .ok (.aload_n 0, 1) := by decide +kernel
theorem dX8_lawFor_35 : decode cX8_lawFor 35 = .ok (.getfield 24, 3) := by decide +kernel
theorem dX8_lawFor_38 : decode cX8_lawFor 38 = .ok (.getfield 114, 3) := by decide +kernel
theorem dX8_lawFor_41 : decode cX8_lawFor 41 = .ok (.iload_n 2, 1) := by decide +kernel
theorem dX8_lawFor_42 : decode cX8_lawFor 42 = .ok (.iaload, 1) := by decide +kernel
theorem dX8_lawFor_43 : decode cX8_lawFor 43 = .ok (.iastore, 1) := by decide +kernel
theorem dX8_lawFor_44 : decode cX8_lawFor 44 = .ok (.aload_n 0, 1) := by decide +kernel
theorem dX8_lawFor_45 : decode cX8_lawFor 45 = .ok (.getfield 60, 3) := by decide +kernel
theorem dX8_lawFor_48 : decode cX8_lawFor 48 = .ok (.iconst 3, 1) := by decide +kernel
theorem dX8_lawFor_49 : decode cX8_lawFor 49 = .ok (.aload_n 0, 1) := by decide +kernel
theorem dX8_lawFor_50 : decode cX8_lawFor 50 = .ok (.getfield 24, 3) := by decide +kernel
theorem dX8_lawFor_53 : decode cX8_lawFor 53 = .ok (.getfield 117, 3) := by decide +kernel
theorem dX8_lawFor_56 : decode cX8_lawFor 56 = .ok (.iload_n 2, 1) := by decide +kernel
theorem dX8_lawFor_57 : decode cX8_lawFor 57 = .ok (.iaload, 1) := by decide +kernel
theorem dX8_lawFor_58 : decode cX8_lawFor 58 = .ok (.iastore, 1) := by decide +kernel
theorem dX8_lawFor_59 : decode cX8_lawFor 59 = .ok (.aload_n 0, 1) := by decide +kernel
theorem dX8_lawFor_60 : decode cX8_lawFor 60 = .ok (.getfield 60, 3) := by decide +kernel
theorem dX8_lawFor_63 : decode cX8_lawFor 63 = .ok (.iconst 4, 1) := by decide +kernel
theorem dX8_lawFor_64 : decode cX8_lawFor 64 = .ok (.aload_n 0, 1) := by decide +kernel
theorem dX8_lawFor_65 : decode cX8_lawFor 65 = .ok (.getfield 15, 3) := by decide +kernel
theorem dX8_lawFor_68 : decode cX8_lawFor 68 = .ok (.iload_n 2, 1) := by decide +kernel
theorem dX8_lawFor_69 : decode cX8_lawFor 69 = .ok (.iaload, 1) := by decide +kernel
theorem dX8_lawFor_70 : decode cX8_lawFor 70 = .ok (.aload_n 0, 1) := by decide +kernel
theorem dX8_lawFor_71 : decode cX8_lawFor 71 = .ok (.invokevirtual 106, 3) := by decide +kernel
theorem dX8_lawFor_74 : decode cX8_lawFor 74 = .ok (.iand, 1) := by decide +kernel
theorem dX8_lawFor_75 : decode cX8_lawFor 75 = .ok (.invokestatic 132, 3) := by decide +kernel
theorem dX8_lawFor_78 : decode cX8_lawFor 78 = .ok (.iastore, 1) := by decide +kernel
theorem dX8_lawFor_79 : decode cX8_lawFor 79 = .ok (.aload_n 0, 1) := by decide +kernel
theorem dX8_lawFor_80 : decode cX8_lawFor 80 = .ok (.getfield 60, 3) := by decide +kernel
theorem dX8_lawFor_83 : decode cX8_lawFor 83 = .ok (.iconst 5, 1) := by decide +kernel
theorem dX8_lawFor_84 : decode cX8_lawFor 84 = .ok (.aload_n 0, 1) := by decide +kernel
theorem dX8_lawFor_85 : decode cX8_lawFor 85 = .ok (.iload_n 2, 1) := by decide +kernel
theorem dX8_lawFor_86 : decode cX8_lawFor 86 = .ok (.invokevirtual 137, 3) := by decide +kernel
theorem dX8_lawFor_89 : decode cX8_lawFor 89 = .ok (.invokestatic 132, 3) := by decide +kernel
theorem dX8_lawFor_92 : decode cX8_lawFor 92 = .ok (.iastore, 1) := by decide +kernel
theorem dX8_lawFor_93 : decode cX8_lawFor 93 = .ok (.aload_n 0, 1) := by decide +kernel
theorem dX8_lawFor_94 : decode cX8_lawFor 94 = .ok (.getfield 60, 3) := by decide +kernel
theorem dX8_lawFor_97 : decode cX8_lawFor 97 = .ok (.bipush 6, 2) := by decide +kernel
theorem dX8_lawFor_99 : decode cX8_lawFor 99 = .ok (.iload_n 3, 1) := by decide +kernel
theorem dX8_lawFor_100 : decode cX8_lawFor 100 = .ok (.iastore, 1) := by decide +kernel
theorem dX8_lawFor_101 : decode cX8_lawFor 101 = .ok (.aload_n 0, 1) := by decide +kernel
theorem dX8_lawFor_102 : decode cX8_lawFor 102 = .ok (.getfield 60, 3) := by decide +kernel
theorem dX8_lawFor_105 : decode cX8_lawFor 105 = .ok (.bipush 7, 2) := by decide +kernel
theorem dX8_lawFor_107 : decode cX8_lawFor 107 = .ok (.aload_n 0, 1) := by decide +kernel
theorem dX8_lawFor_108 : decode cX8_lawFor 108 = .ok (.getfield 24, 3) := by decide +kernel
theorem dX8_lawFor_111 : decode cX8_lawFor 111 = .ok (.getfield 140, 3) := by decide +kernel
theorem dX8_lawFor_114 : decode cX8_lawFor 114 = .ok (.iastore, 1) := by decide +kernel
theorem dX8_lawFor_115 : decode cX8_lawFor 115 = .ok (.iload_n 1, 1) := by decide +kernel
theorem dX8_lawFor_116 : decode cX8_lawFor 116 = .ok (.bipush 104, 2) := by decide +kernel
theorem dX8_lawFor_118 : decode cX8_lawFor 118 = .ok (.if_icmp .ne 26, 3) := by decide +kernel
theorem dX8_lawFor_121 : decode cX8_lawFor 121 = .ok (.aload_n 0, 1) := by decide +kernel
theorem dX8_lawFor_122 : decode cX8_lawFor 122 = .ok (.getfield 56, 3) := by decide +kernel
theorem dX8_lawFor_125 : decode cX8_lawFor 125 = .ok (.iload_n 1, 1) := by decide +kernel
theorem dX8_lawFor_126 : decode cX8_lawFor 126 = .ok (.aload_n 0, 1) := by decide +kernel
theorem dX8_lawFor_127 : decode cX8_lawFor 127 = .ok (.getfield 60, 3) := by decide +kernel
theorem dX8_lawFor_130 : decode cX8_lawFor 130 = .ok (.sipush 365, 3) := by decide +kernel
theorem dX8_lawFor_133 : decode cX8_lawFor 133 = .ok (.invokevirtual 143, 3) := by decide +kernel
theorem dX8_lawFor_136 : decode cX8_lawFor 136 = .ok (.iconst 1, 1) := by decide +kernel
theorem dX8_lawFor_137 : decode cX8_lawFor 137 = .ok (.sipush 9999, 3) := by decide +kernel
theorem dX8_lawFor_140 : decode cX8_lawFor 140 = .ok (.invokestatic 147, 3) := by decide +kernel
theorem dX8_lawFor_143 : decode cX8_lawFor 143 = .ok (.ireturn, 1) := by decide +kernel
theorem dX8_lawFor_144 : decode cX8_lawFor 144 = .ok (.iload_n 1, 1) := by decide +kernel
theorem dX8_lawFor_145 : decode cX8_lawFor 145 = .ok (.bipush 105, 2) := by decide +kernel
theorem dX8_lawFor_147 : decode cX8_lawFor 147 = .ok (.if_icmp .ne 23, 3) := by decide +kernel
theorem dX8_lawFor_150 : decode cX8_lawFor 150 = .ok (.aload_n 0, 1) := by decide +kernel
theorem dX8_lawFor_151 : decode cX8_lawFor 151 = .ok (.getfield 56, 3) := by decide +kernel
theorem dX8_lawFor_154 : decode cX8_lawFor 154 = .ok (.iload_n 1, 1) := by decide +kernel
theorem dX8_lawFor_155 : decode cX8_lawFor 155 = .ok (.aload_n 0, 1) := by decide +kernel
theorem dX8_lawFor_156 : decode cX8_lawFor 156 = .ok (.getfield 60, 3) := by decide +kernel
theorem dX8_lawFor_159 : decode cX8_lawFor 159 = .ok (.iconst 2, 1) := by decide +kernel
theorem dX8_lawFor_160 : decode cX8_lawFor 160 = .ok (.invokevirtual 143, 3) := by decide +kernel
theorem dX8_lawFor_163 : decode cX8_lawFor 163 = .ok (.iconst 0, 1) := by decide +kernel
theorem dX8_lawFor_164 : decode cX8_lawFor 164 = .ok (.bipush 9, 2) := by decide +kernel
theorem dX8_lawFor_166 : decode cX8_lawFor 166 = .ok (.invokestatic 147, 3) := by decide +kernel
theorem dX8_lawFor_169 : decode cX8_lawFor 169 = .ok (.ireturn, 1) := by decide +kernel
theorem dX8_lawFor_170 : decode cX8_lawFor 170 = .ok (.aload_n 0, 1) := by decide +kernel
theorem dX8_lawFor_171 : decode cX8_lawFor 171 = .ok (.getfield 56, 3) := by decide +kernel
theorem dX8_lawFor_174 : decode cX8_lawFor 174 = .ok (.iload_n 1, 1) := by decide +kernel
theorem dX8_lawFor_175 : decode cX8_lawFor 175 = .ok (.aload_n 0, 1) := by decide +kernel
theorem dX8_lawFor_176 : decode cX8_lawFor 176 = .ok (.getfield 60, 3) := by decide +kernel
theorem dX8_lawFor_179 : decode cX8_lawFor 179 = .ok (.aload_n 0, 1) := by decide +kernel
theorem dX8_lawFor_180 : decode cX8_lawFor 180 = .ok (.getfield 9, 3) := by decide +kernel
theorem dX8_lawFor_183 : decode cX8_lawFor 183 = .ok (.iload_n 2, 1) := by decide +kernel
theorem dX8_lawFor_184 : decode cX8_lawFor 184 = .ok (.iaload, 1) := by decide +kernel
theorem dX8_lawFor_185 : decode cX8_lawFor 185 = .ok (.invokevirtual 143, 3) := by decide +kernel
theorem dX8_lawFor_188 : decode cX8_lawFor 188 = .ok (.iconst 0, 1) := by decide +kernel
theorem dX8_lawFor_189 : decode cX8_lawFor 189 = .ok (.bipush 99, 2) := by decide +kernel
theorem dX8_lawFor_191 : decode cX8_lawFor 191 = .ok (.invokestatic 147, 3) := by decide +kernel
theorem dX8_lawFor_194 : decode cX8_lawFor 194 = .ok (.ireturn, 1) := by decide +kernel
theorem dX8_held_0 : decode cX8_held 0 = .ok (.iload_n 1, 1) := by decide +kernel
theorem dX8_held_1 : decode cX8_held 1 = .ok (.iload_n 2, 1) := by decide +kernel
theorem dX8_held_2 : decode cX8_held 2 = .ok (.iload_n 0, 1) := by decide +kernel
theorem dX8_held_3 : decode cX8_held 3 = .ok (.invokestatic 151, 3) := by decide +kernel
theorem dX8_held_6 : decode cX8_held 6 = .ok (.invokestatic 157, 3) := by decide +kernel
theorem dX8_held_9 : decode cX8_held 9 = .ok (.ireturn, 1) := by decide +kernel
theorem dX8_canSpeak_0 : decode cX8_canSpeak 0 = .ok (.aload_n 0, 1) := by decide +kernel
theorem dX8_canSpeak_1 : decode cX8_canSpeak 1 = .ok (.iload_n 1, 1) := by decide +kernel
theorem dX8_canSpeak_2 : decode cX8_canSpeak 2 = .ok (.invokevirtual 99, 3) := by decide +kernel
theorem dX8_canSpeak_5 : decode cX8_canSpeak 5 = .ok (.ifCond .eq 60, 3) := by decide +kernel
theorem dX8_canSpeak_8 : decode cX8_canSpeak 8 = .ok (.aload_n 0, 1) := by decide +kernel
theorem dX8_canSpeak_9 : decode cX8_canSpeak 9 = .ok (.iload_n 2, 1) := by decide +kernel
theorem dX8_canSpeak_10 : decode cX8_canSpeak 10 = .ok (.invokevirtual 129, 3) := by decide +kernel
theorem dX8_canSpeak_13 : decode cX8_canSpeak 13 = .ok (.ifCond .eq 52, 3) := by decide +kernel
theorem dX8_canSpeak_16 : decode cX8_canSpeak 16 = .ok (.aload_n 0, 1) := by decide +kernel
theorem dX8_canSpeak_17 : decode cX8_canSpeak 17 = .ok (.iload_n 1, 1) := by decide +kernel
theorem dX8_canSpeak_18 : decode cX8_canSpeak 18 = .ok (.iload_n 2, 1) := by decide +kernel
theorem dX8_canSpeak_19 : decode cX8_canSpeak 19 = .ok (.invokevirtual 160, 3) := by decide +kernel
theorem dX8_canSpeak_22 : decode cX8_canSpeak 22 = .ok (.ifCond .eq 43, 3) := by decide +kernel
theorem dX8_canSpeak_25 : decode cX8_canSpeak 25 = .ok (.aload_n 0, 1) := by decide +kernel
theorem dX8_canSpeak_26 : decode cX8_canSpeak 26 = .ok (.iload_n 2, 1) := by decide +kernel
theorem dX8_canSpeak_27 : decode cX8_canSpeak 27 = .ok (.invokevirtual 163, 3) := by decide +kernel
theorem dX8_canSpeak_30 : decode cX8_canSpeak 30 = .ok (.ifCond .ne 35, 3) := by decide +kernel
theorem dX8_canSpeak_33 : decode cX8_canSpeak 33 = .ok (.aload_n 0, 1) := by decide +kernel
theorem dX8_canSpeak_34 : decode cX8_canSpeak 34 = .ok (.getfield 24, 3) := by decide +kernel
theorem dX8_canSpeak_37 : decode cX8_canSpeak 37 = .ok (.getfield 123, 3) := by decide +kernel
theorem dX8_canSpeak_40 : decode cX8_canSpeak 40 = .ok (.iload_n 1, 1) := by decide +kernel
theorem dX8_canSpeak_41 : decode cX8_canSpeak 41 = .ok (.iaload, 1) := by decide +kernel
theorem dX8_canSpeak_42 : decode cX8_canSpeak 42 = .ok (.aload_n 0, 1) := by decide +kernel
theorem dX8_canSpeak_43 : decode cX8_canSpeak 43 = .ok (.bipush 106, 2) := by decide +kernel
theorem dX8_canSpeak_45 : decode cX8_canSpeak 45 = .ok (.iload_n 2, 1) := by decide +kernel
theorem dX8_canSpeak_46 : decode cX8_canSpeak 46 = .ok (.aload_n 0, 1) := by decide +kernel
theorem dX8_canSpeak_47 : decode cX8_canSpeak 47 = .ok (.getfield 24, 3) := by decide +kernel
theorem dX8_canSpeak_50 : decode cX8_canSpeak 50 = .ok (.getfield 120, 3) := by decide +kernel
theorem dX8_canSpeak_53 : decode cX8_canSpeak 53 = .ok (.iload_n 1, 1) := by decide +kernel
theorem dX8_canSpeak_54 : decode cX8_canSpeak 54 = .ok (.iaload, 1) := by decide +kernel
theorem dX8_canSpeak_55 : decode cX8_canSpeak 55 = .ok (.invokevirtual 166, 3) := by decide +kernel
theorem dX8_canSpeak_58 : decode cX8_canSpeak 58 = .ok (.if_icmp .lt 7, 3) := by decide +kernel
theorem dX8_canSpeak_61 : decode cX8_canSpeak 61 = .ok (.iconst 1, 1) := by decide +kernel
theorem dX8_canSpeak_62 : decode cX8_canSpeak 62 = .ok (.goto 4, 3) := by decide +kernel
theorem dX8_canSpeak_65 : decode cX8_canSpeak 65 = .ok (.iconst 0, 1) := by decide +kernel
theorem dX8_canSpeak_66 : decode cX8_canSpeak 66 = .ok (.ireturn, 1) := by decide +kernel
theorem dX8_speak_0 : decode cX8_speak 0 = .ok (.aload_n 0, 1) := by decide +kernel
theorem dX8_speak_1 : decode cX8_speak 1 = .ok (.iload_n 1, 1) := by decide +kernel
theorem dX8_speak_2 : decode cX8_speak 2 = .ok (.invokevirtual 99, 3) := by decide +kernel
theorem dX8_speak_5 : decode cX8_speak 5 = .ok (.ifCond .eq 11, 3) := by decide +kernel
theorem dX8_speak_8 : decode cX8_speak 8 = .ok (.aload_n 0, 1) := by decide +kernel
theorem dX8_speak_9 : decode cX8_speak 9 = .ok (.iload_n 2, 1) := by decide +kernel
theorem dX8_speak_10 : decode cX8_speak 10 = .ok (.invokevirtual 129, 3) := by decide +kernel
theorem dX8_speak_13 : decode cX8_speak 13 = .ok (.ifCond .ne 5, 3) := by decide +kernel
theorem dX8_speak_16 : decode cX8_speak 16 = .ok (.iconst 0, 1) := by decide +kernel
theorem dX8_speak_17 : decode cX8_speak 17 = .ok (.ireturn, 1) := by decide +kernel
theorem dX8_speak_18 : decode cX8_speak 18 = .ok (.aload_n 0, 1) := by decide +kernel
theorem dX8_speak_19 : decode cX8_speak 19 = .ok (.aload_n 0, 1) := by decide +kernel
theorem dX8_speak_20 : decode cX8_speak 20 = .ok (.getfield 24, 3) := by decide +kernel
theorem dX8_speak_23 : decode cX8_speak 23 = .ok (.getfield 120, 3) := by decide +kernel
theorem dX8_speak_26 : decode cX8_speak 26 = .ok (.iload_n 1, 1) := by decide +kernel
theorem dX8_speak_27 : decode cX8_speak 27 = .ok (.iaload, 1) := by decide +kernel
theorem dX8_speak_28 : decode cX8_speak 28 = .ok (.invokevirtual 169, 3) := by decide +kernel
theorem dX8_speak_31 : decode cX8_speak 31 = .ok (.iconst 1, 1) := by decide +kernel
theorem dX8_speak_32 : decode cX8_speak 32 = .ok (.iload_n 1, 1) := by decide +kernel
theorem dX8_speak_33 : decode cX8_speak 33 = .ok (.ishl, 1) := by decide +kernel
theorem dX8_speak_34 : decode cX8_speak 34 = .ok (.iconst (-1), 1) := by decide +kernel
theorem dX8_speak_35 : decode cX8_speak 35 = .ok (.ixor, 1) := by decide +kernel
theorem dX8_speak_36 : decode cX8_speak 36 = .ok (.iand, 1) := by decide +kernel
theorem dX8_speak_37 : decode cX8_speak 37 = .ok (.istore_n 3, 1) := by decide +kernel
theorem dX8_speak_38 : decode cX8_speak 38 = .ok (.iload_n 3, 1) := by decide +kernel
theorem dX8_speak_39 : decode cX8_speak 39 = .ok (.aload_n 0, 1) := by decide +kernel
theorem dX8_speak_40 : decode cX8_speak 40 = .ok (.iload_n 2, 1) := by decide +kernel
theorem dX8_speak_41 : decode cX8_speak 41 = .ok (.invokevirtual 137, 3) := by decide +kernel
theorem dX8_speak_44 : decode cX8_speak 44 = .ok (.iand, 1) := by decide +kernel
theorem dX8_speak_45 : decode cX8_speak 45 = .ok (.invokestatic 132, 3) := by decide +kernel
theorem dX8_speak_48 : decode cX8_speak 48 = .ok (.istore 4, 2) := by decide +kernel
theorem dX8_speak_50 : decode cX8_speak 50 = .ok (.iload 4, 2) := by decide +kernel
theorem dX8_speak_52 : decode cX8_speak 52 = .ok (.aload_n 0, 1) := by decide +kernel
theorem dX8_speak_53 : decode cX8_speak 53 = .ok (.bipush 105, 2) := by decide +kernel
theorem dX8_speak_55 : decode cX8_speak 55 = .ok (.iload_n 2, 1) := by decide +kernel
theorem dX8_speak_56 : decode cX8_speak 56 = .ok (.aload_n 0, 1) := by decide +kernel
theorem dX8_speak_57 : decode cX8_speak 57 = .ok (.getfield 24, 3) := by decide +kernel
theorem dX8_speak_60 : decode cX8_speak 60 = .ok (.getfield 120, 3) := by decide +kernel
theorem dX8_speak_63 : decode cX8_speak 63 = .ok (.iload_n 1, 1) := by decide +kernel
theorem dX8_speak_64 : decode cX8_speak 64 = .ok (.iaload, 1) := by decide +kernel
theorem dX8_speak_65 : decode cX8_speak 65 = .ok (.invokevirtual 166, 3) := by decide +kernel
theorem dX8_speak_68 : decode cX8_speak 68 = .ok (.if_icmp .lt 7, 3) := by decide +kernel
theorem dX8_speak_71 : decode cX8_speak 71 = .ok (.iconst 1, 1) := by decide +kernel
theorem dX8_speak_72 : decode cX8_speak 72 = .ok (.goto 4, 3) := by decide +kernel
theorem dX8_speak_75 : decode cX8_speak 75 = .ok (.iconst 0, 1) := by decide +kernel
theorem dX8_speak_76 : decode cX8_speak 76 = .ok (.istore 5, 2) := by decide +kernel
theorem dX8_speak_78 : decode cX8_speak 78 = .ok (.aload_n 0, 1) := by decide +kernel
theorem dX8_speak_79 : decode cX8_speak 79 = .ok (.getfield 24, 3) := by decide +kernel
theorem dX8_speak_82 : decode cX8_speak 82 = .ok (.getfield 123, 3) := by decide +kernel
theorem dX8_speak_85 : decode cX8_speak 85 = .ok (.iload_n 1, 1) := by decide +kernel
theorem dX8_speak_86 : decode cX8_speak 86 = .ok (.dup2, 1) := by decide +kernel
theorem dX8_speak_87 : decode cX8_speak 87 = .ok (.iaload, 1) := by decide +kernel
theorem dX8_speak_88 : decode cX8_speak 88 = .ok (.aload_n 0, 1) := by decide +kernel
theorem dX8_speak_89 : decode cX8_speak 89 = .ok (.bipush 106, 2) := by decide +kernel
theorem dX8_speak_91 : decode cX8_speak 91 = .ok (.iload_n 2, 1) := by decide +kernel
theorem dX8_speak_92 : decode cX8_speak 92 = .ok (.aload_n 0, 1) := by decide +kernel
theorem dX8_speak_93 : decode cX8_speak 93 = .ok (.getfield 24, 3) := by decide +kernel
theorem dX8_speak_96 : decode cX8_speak 96 = .ok (.getfield 120, 3) := by decide +kernel
theorem dX8_speak_99 : decode cX8_speak 99 = .ok (.iload_n 1, 1) := by decide +kernel
theorem dX8_speak_100 : decode cX8_speak 100 = .ok (.iaload, 1) := by decide +kernel
theorem dX8_speak_101 : decode cX8_speak 101 = .ok (.invokevirtual 166, 3) := by decide +kernel
theorem dX8_speak_104 : decode cX8_speak 104 = .ok (.isub, 1) := by decide +kernel
theorem dX8_speak_105 : decode cX8_speak 105 = .ok (.iastore, 1) := by decide +kernel
theorem dX8_speak_106 : decode cX8_speak 106 = .ok (.iload 5, 2) := by decide +kernel
theorem dX8_speak_108 : decode cX8_speak 108 = .ok (.ifCond .eq 9, 3) := by decide +kernel
theorem dX8_speak_111 : decode cX8_speak 111 = .ok (.aload_n 0, 1) := by decide +kernel
theorem dX8_speak_112 : decode cX8_speak 112 = .ok (.iload_n 2, 1) := by decide +kernel
theorem dX8_speak_113 : decode cX8_speak 113 = .ok (.iload_n 3, 1) := by decide +kernel
theorem dX8_speak_114 : decode cX8_speak 114 = .ok (.invokevirtual 172, 3) := by decide +kernel
theorem dX8_speak_117 : decode cX8_speak 117 = .ok (.aload_n 0, 1) := by decide +kernel
theorem dX8_speak_118 : decode cX8_speak 118 = .ok (.getfield 33, 3) := by decide +kernel
theorem dX8_speak_121 : decode cX8_speak 121 = .ok (.aload_n 0, 1) := by decide +kernel
theorem dX8_speak_122 : decode cX8_speak 122 = .ok (.getfield 24, 3) := by decide +kernel
theorem dX8_speak_125 : decode cX8_speak 125 = .ok (.getfield 140, 3) := by decide +kernel
theorem dX8_speak_128 : decode cX8_speak 128 = .ok (.iload 5, 2) := by decide +kernel
theorem dX8_speak_130 : decode cX8_speak 130 = .ok (.ifCond .eq 7, 3) := by decide +kernel
theorem dX8_speak_133 : decode cX8_speak 133 = .ok (.iconst 0, 1) := by decide +kernel
theorem dX8_speak_134 : decode cX8_speak 134 = .ok (.goto 4, 3) := by decide +kernel
theorem dX8_speak_137 : decode cX8_speak 137 = .ok (.iconst 1, 1) := by decide +kernel
theorem dX8_speak_138 : decode cX8_speak 138 = .ok (.iload_n 1, 1) := by decide +kernel
theorem dX8_speak_139 : decode cX8_speak 139 = .ok (.iload_n 2, 1) := by decide +kernel
theorem dX8_speak_140 : decode cX8_speak 140 = .ok (.invokevirtual 176, 3) := by decide +kernel
theorem dX8_speak_143 : decode cX8_speak 143 = .ok (.iload 5, 2) := by decide +kernel
theorem dX8_speak_145 : decode cX8_speak 145 = .ok (.ireturn, 1) := by decide +kernel
theorem dX8_spread_0 : decode cX8_spread 0 = .ok (.aload_n 0, 1) := by decide +kernel
theorem dX8_spread_1 : decode cX8_spread 1 = .ok (.getfield 24, 3) := by decide +kernel
theorem dX8_spread_4 : decode cX8_spread 4 = .ok (.getfield 114, 3) := by decide +kernel
theorem dX8_spread_7 : decode cX8_spread 7 = .ok (.iload_n 1, 1) := by decide +kernel
theorem dX8_spread_8 : decode cX8_spread 8 = .ok (.iconst 0, 1) := by decide +kernel
theorem dX8_spread_9 : decode cX8_spread 9 = .ok (.iastore, 1) := by decide +kernel
theorem dX8_spread_10 : decode cX8_spread 10 = .ok (.aload_n 0, 1) := by decide +kernel
theorem dX8_spread_11 : decode cX8_spread 11 = .ok (.getfield 24, 3) := by decide +kernel
theorem dX8_spread_14 : decode cX8_spread 14 = .ok (.getfield 117, 3) := by decide +kernel
theorem dX8_spread_17 : decode cX8_spread 17 = .ok (.iload_n 1, 1) := by decide +kernel
theorem dX8_spread_18 : decode cX8_spread 18 = .ok (.dup2, 1) := by decide +kernel
theorem dX8_spread_19 : decode cX8_spread 19 = .ok (.iaload, 1) := by decide +kernel
theorem dX8_spread_20 : decode cX8_spread 20 = .ok (.iconst 1, 1) := by decide +kernel
theorem dX8_spread_21 : decode cX8_spread 21 = .ok (.iadd, 1) := by decide +kernel
theorem dX8_spread_22 : decode cX8_spread 22 = .ok (.iastore, 1) := by decide +kernel
theorem dX8_spread_23 : decode cX8_spread 23 = .ok (.aload_n 0, 1) := by decide +kernel
theorem dX8_spread_24 : decode cX8_spread 24 = .ok (.getfield 15, 3) := by decide +kernel
theorem dX8_spread_27 : decode cX8_spread 27 = .ok (.iload_n 1, 1) := by decide +kernel
theorem dX8_spread_28 : decode cX8_spread 28 = .ok (.iaload, 1) := by decide +kernel
theorem dX8_spread_29 : decode cX8_spread 29 = .ok (.aload_n 0, 1) := by decide +kernel
theorem dX8_spread_30 : decode cX8_spread 30 = .ok (.invokevirtual 106, 3) := by decide +kernel
theorem dX8_spread_33 : decode cX8_spread 33 = .ok (.iand, 1) := by decide +kernel
theorem dX8_spread_34 : decode cX8_spread 34 = .ok (.istore_n 3, 1) := by decide +kernel
theorem dX8_spread_35 : decode cX8_spread 35 = .ok (.iconst 0, 1) := by decide +kernel
theorem dX8_spread_36 : decode cX8_spread 36 = .ok (.istore 4, 2) := by decide +kernel
theorem dX8_spread_38 : decode cX8_spread 38 = .ok (.iload 4, 2) := by decide +kernel
theorem dX8_spread_40 : decode cX8_spread 40 = .ok (.aload_n 0, 1) := by decide +kernel
theorem dX8_spread_41 : decode cX8_spread 41 = .ok (.getfield 63, 3) := by decide +kernel
theorem dX8_spread_44 : decode cX8_spread 44 = .ok (.if_icmp .ge 32, 3) := by decide +kernel
theorem dX8_spread_47 : decode cX8_spread 47 = .ok (.iload_n 3, 1) := by decide +kernel
theorem dX8_spread_48 : decode cX8_spread 48 = .ok (.iload 4, 2) := by decide +kernel
theorem dX8_spread_50 : decode cX8_spread 50 = .ok (.invokestatic 95, 3) := by decide +kernel
theorem dX8_spread_53 : decode cX8_spread 53 = .ok (.ifCond .eq 17, 3) := by decide +kernel
theorem dX8_spread_56 : decode cX8_spread 56 = .ok (.aload_n 0, 1) := by decide +kernel
theorem dX8_spread_57 : decode cX8_spread 57 = .ok (.getfield 24, 3) := by decide +kernel
theorem dX8_spread_60 : decode cX8_spread 60 = .ok (.getfield 114, 3) := by decide +kernel
theorem dX8_spread_63 : decode cX8_spread 63 = .ok (.iload 4, 2) := by decide +kernel
theorem dX8_spread_65 : decode cX8_spread 65 = .ok (.dup2, 1) := by decide +kernel
theorem dX8_spread_66 : decode cX8_spread 66 = .ok (.iaload, 1) := by decide +kernel
theorem dX8_spread_67 : decode cX8_spread 67 = .ok (.iconst 2, 1) := by decide +kernel
theorem dX8_spread_68 : decode cX8_spread 68 = .ok (.idiv, 1) := by decide +kernel
theorem dX8_spread_69 : decode cX8_spread 69 = .ok (.iastore, 1) := by decide +kernel
theorem dX8_spread_70 : decode cX8_spread 70 = .ok (.iinc 4 1, 3) := by decide +kernel
theorem dX8_spread_73 : decode cX8_spread 73 = .ok (.goto (-35), 3) := by decide +kernel
theorem dX8_spread_76 : decode cX8_spread 76 = .ok (.iconst 0, 1) := by decide +kernel
theorem dX8_spread_77 : decode cX8_spread 77 = .ok (.istore 4, 2) := by decide +kernel
theorem dX8_spread_79 : decode cX8_spread 79 = .ok (.iload 4, 2) := by decide +kernel
theorem dX8_spread_81 : decode cX8_spread 81 = .ok (.aload_n 0, 1) := by decide +kernel
theorem dX8_spread_82 : decode cX8_spread 82 = .ok (.getfield 67, 3) := by decide +kernel
theorem dX8_spread_85 : decode cX8_spread 85 = .ok (.if_icmp .ge 34, 3) := by decide +kernel
theorem dX8_spread_88 : decode cX8_spread 88 = .ok (.iload_n 2, 1) := by decide +kernel
theorem dX8_spread_89 : decode cX8_spread 89 = .ok (.iload 4, 2) := by decide +kernel
theorem dX8_spread_91 : decode cX8_spread 91 = .ok (.invokestatic 95, 3) := by decide +kernel
theorem dX8_spread_94 : decode cX8_spread 94 = .ok (.ifCond .eq 19, 3) := by decide +kernel
theorem dX8_spread_97 : decode cX8_spread 97 = .ok (.aload_n 0, 1) := by decide +kernel
theorem dX8_spread_98 : decode cX8_spread 98 = .ok (.getfield 24, 3) := by decide +kernel
theorem dX8_spread_101 : decode cX8_spread 101 = .ok (.getfield 103, 3) := by decide +kernel
theorem dX8_spread_104 : decode cX8_spread 104 = .ok (.iload 4, 2) := by decide +kernel
theorem dX8_spread_106 : decode cX8_spread 106 = .ok (.dup2, 1) := by decide +kernel
theorem dX8_spread_107 : decode cX8_spread 107 = .ok (.iaload, 1) := by decide +kernel
theorem dX8_spread_108 : decode cX8_spread 108 = .ok (.iconst 1, 1) := by decide +kernel
theorem dX8_spread_109 : decode cX8_spread 109 = .ok (.iload_n 1, 1) := by decide +kernel
theorem dX8_spread_110 : decode cX8_spread 110 = .ok (.ishl, 1) := by decide +kernel
theorem dX8_spread_111 : decode cX8_spread 111 = .ok (.ior, 1) := by decide +kernel
theorem dX8_spread_112 : decode cX8_spread 112 = .ok (.iastore, 1) := by decide +kernel
theorem dX8_spread_113 : decode cX8_spread 113 = .ok (.iinc 4 1, 3) := by decide +kernel
theorem dX8_spread_116 : decode cX8_spread 116 = .ok (.goto (-37), 3) := by decide +kernel
theorem dX8_spread_119 : decode cX8_spread 119 = .ok (.return_, 1) := by decide +kernel
theorem dX8_moveTo_0 : decode cX8_moveTo 0 = .ok (.aload_n 0, 1) := by decide +kernel
theorem dX8_moveTo_1 : decode cX8_moveTo 1 = .ok (.iload_n 1, 1) := by decide +kernel
theorem dX8_moveTo_2 : decode cX8_moveTo 2 = .ok (.invokevirtual 99, 3) := by decide +kernel
theorem dX8_moveTo_5 : decode cX8_moveTo 5 = .ok (.ifCond .eq 30, 3) := by decide +kernel
theorem dX8_moveTo_8 : decode cX8_moveTo 8 = .ok (.aload_n 0, 1) := by decide +kernel
theorem dX8_moveTo_9 : decode cX8_moveTo 9 = .ok (.getfield 24, 3) := by decide +kernel
theorem dX8_moveTo_12 : decode cX8_moveTo 12 = .ok (.getfield 120, 3) := by decide +kernel
theorem dX8_moveTo_15 : decode cX8_moveTo 15 = .ok (.iload_n 1, 1) := by decide +kernel
theorem dX8_moveTo_16 : decode cX8_moveTo 16 = .ok (.iload_n 2, 1) := by decide +kernel
theorem dX8_moveTo_17 : decode cX8_moveTo 17 = .ok (.iastore, 1) := by decide +kernel
theorem dX8_moveTo_18 : decode cX8_moveTo 18 = .ok (.aload_n 0, 1) := by decide +kernel
theorem dX8_moveTo_19 : decode cX8_moveTo 19 = .ok (.getfield 33, 3) := by decide +kernel
theorem dX8_moveTo_22 : decode cX8_moveTo 22 = .ok (.aload_n 0, 1) := by decide +kernel
theorem dX8_moveTo_23 : decode cX8_moveTo 23 = .ok (.getfield 24, 3) := by decide +kernel
theorem dX8_moveTo_26 : decode cX8_moveTo 26 = .ok (.getfield 140, 3) := by decide +kernel
theorem dX8_moveTo_29 : decode cX8_moveTo 29 = .ok (.iconst 3, 1) := by decide +kernel
theorem dX8_moveTo_30 : decode cX8_moveTo 30 = .ok (.iload_n 1, 1) := by decide +kernel
theorem dX8_moveTo_31 : decode cX8_moveTo 31 = .ok (.iload_n 2, 1) := by decide +kernel
theorem dX8_moveTo_32 : decode cX8_moveTo 32 = .ok (.invokevirtual 176, 3) := by decide +kernel
theorem dX8_moveTo_35 : decode cX8_moveTo 35 = .ok (.return_, 1) := by decide +kernel
theorem dX8_learn_0 : decode cX8_learn 0 = .ok (.aload_n 0, 1) := by decide +kernel
theorem dX8_learn_1 : decode cX8_learn 1 = .ok (.iload_n 1, 1) := by decide +kernel
theorem dX8_learn_2 : decode cX8_learn 2 = .ok (.invokevirtual 99, 3) := by decide +kernel
theorem dX8_learn_5 : decode cX8_learn 5 = .ok (.ifCond .eq 43, 3) := by decide +kernel
theorem dX8_learn_8 : decode cX8_learn 8 = .ok (.aload_n 0, 1) := by decide +kernel
theorem dX8_learn_9 : decode cX8_learn 9 = .ok (.iload_n 2, 1) := by decide +kernel
theorem dX8_learn_10 : decode cX8_learn 10 = .ok (.invokevirtual 129, 3) := by decide +kernel
theorem dX8_learn_13 : decode cX8_learn 13 = .ok (.ifCond .eq 35, 3) := by decide +kernel
theorem dX8_learn_16 : decode cX8_learn 16 = .ok (.aload_n 0, 1) := by decide +kernel
theorem dX8_learn_17 : decode cX8_learn 17 = .ok (.getfield 24, 3) := by decide +kernel
theorem dX8_learn_20 : decode cX8_learn 20 = .ok (.getfield 103, 3) := by decide +kernel
theorem dX8_learn_23 : decode cX8_learn 23 = .ok (.iload_n 1, 1) := by decide +kernel
theorem dX8_learn_24 : decode cX8_learn 24 = .ok (.dup2, 1) := by decide +kernel
theorem dX8_learn_25 : decode cX8_learn 25 = .ok (.iaload, 1) := by decide +kernel
theorem dX8_learn_26 : decode cX8_learn 26 = .ok (.iconst 1, 1) := by decide +kernel
theorem dX8_learn_27 : decode cX8_learn 27 = .ok (.iload_n 2, 1) := by decide +kernel
theorem dX8_learn_28 : decode cX8_learn 28 = .ok (.ishl, 1) := by decide +kernel
theorem dX8_learn_29 : decode cX8_learn 29 = .ok (.ior, 1) := by decide +kernel
theorem dX8_learn_30 : decode cX8_learn 30 = .ok (.iastore, 1) := by decide +kernel
theorem dX8_learn_31 : decode cX8_learn 31 = .ok (.aload_n 0, 1) := by decide +kernel
theorem dX8_learn_32 : decode cX8_learn 32 = .ok (.getfield 33, 3) := by decide +kernel
theorem dX8_learn_35 : decode cX8_learn 35 = .ok (.aload_n 0, 1) := by decide +kernel
theorem dX8_learn_36 : decode cX8_learn 36 = .ok (.getfield 24, 3) := by decide +kernel
theorem dX8_learn_39 : decode cX8_learn 39 = .ok (.getfield 140, 3) := by decide +kernel
theorem dX8_learn_42 : decode cX8_learn 42 = .ok (.iconst 4, 1) := by decide +kernel
theorem dX8_learn_43 : decode cX8_learn 43 = .ok (.iload_n 1, 1) := by decide +kernel
theorem dX8_learn_44 : decode cX8_learn 44 = .ok (.iload_n 2, 1) := by decide +kernel
theorem dX8_learn_45 : decode cX8_learn 45 = .ok (.invokevirtual 176, 3) := by decide +kernel
theorem dX8_learn_48 : decode cX8_learn 48 = .ok (.return_, 1) := by decide +kernel
theorem dX8_revive_0 : decode cX8_revive 0 = .ok (.aload_n 0, 1) := by decide +kernel
theorem dX8_revive_1 : decode cX8_revive 1 = .ok (.iload_n 1, 1) := by decide +kernel
theorem dX8_revive_2 : decode cX8_revive 2 = .ok (.invokevirtual 129, 3) := by decide +kernel
theorem dX8_revive_5 : decode cX8_revive 5 = .ok (.ifCond .eq 47, 3) := by decide +kernel
theorem dX8_revive_8 : decode cX8_revive 8 = .ok (.aload_n 0, 1) := by decide +kernel
theorem dX8_revive_9 : decode cX8_revive 9 = .ok (.getfield 24, 3) := by decide +kernel
theorem dX8_revive_12 : decode cX8_revive 12 = .ok (.dup, 1) := by decide +kernel
theorem dX8_revive_13 : decode cX8_revive 13 = .ok (.getfield 92, 3) := by decide +kernel
theorem dX8_revive_16 : decode cX8_revive 16 = .ok (.iconst 1, 1) := by decide +kernel
theorem dX8_revive_17 : decode cX8_revive 17 = .ok (.iload_n 1, 1) := by decide +kernel
theorem dX8_revive_18 : decode cX8_revive 18 = .ok (.ishl, 1) := by decide +kernel
theorem dX8_revive_19 : decode cX8_revive 19 = .ok (.iconst (-1), 1) := by decide +kernel
theorem dX8_revive_20 : decode cX8_revive 20 = .ok (.ixor, 1) := by decide +kernel
theorem dX8_revive_21 : decode cX8_revive 21 = .ok (.iand, 1) := by decide +kernel
theorem dX8_revive_22 : decode cX8_revive 22 = .ok (.putfield 92, 3) := by decide +kernel
theorem dX8_revive_25 : decode cX8_revive 25 = .ok (.aload_n 0, 1) := by decide +kernel
theorem dX8_revive_26 : decode cX8_revive 26 = .ok (.getfield 24, 3) := by decide +kernel
theorem dX8_revive_29 : decode cX8_revive 29 = .ok (.getfield 114, 3) := by decide +kernel
theorem dX8_revive_32 : decode cX8_revive 32 = .ok (.iload_n 1, 1) := by decide +kernel
theorem dX8_revive_33 : decode cX8_revive 33 = .ok (.iconst 0, 1) := by decide +kernel
theorem dX8_revive_34 : decode cX8_revive 34 = .ok (.iastore, 1) := by decide +kernel
theorem dX8_revive_35 : decode cX8_revive 35 = .ok (.aload_n 0, 1) := by decide +kernel
theorem dX8_revive_36 : decode cX8_revive 36 = .ok (.getfield 33, 3) := by decide +kernel
theorem dX8_revive_39 : decode cX8_revive 39 = .ok (.aload_n 0, 1) := by decide +kernel
theorem dX8_revive_40 : decode cX8_revive 40 = .ok (.getfield 24, 3) := by decide +kernel
theorem dX8_revive_43 : decode cX8_revive 43 = .ok (.getfield 140, 3) := by decide +kernel
theorem dX8_revive_46 : decode cX8_revive 46 = .ok (.iconst 5, 1) := by decide +kernel
theorem dX8_revive_47 : decode cX8_revive 47 = .ok (.iconst (-1), 1) := by decide +kernel
theorem dX8_revive_48 : decode cX8_revive 48 = .ok (.iload_n 1, 1) := by decide +kernel
theorem dX8_revive_49 : decode cX8_revive 49 = .ok (.invokevirtual 176, 3) := by decide +kernel
theorem dX8_revive_52 : decode cX8_revive 52 = .ok (.return_, 1) := by decide +kernel
theorem dX8_passDay_0 : decode cX8_passDay 0 = .ok (.aload_n 0, 1) := by decide +kernel
theorem dX8_passDay_1 : decode cX8_passDay 1 = .ok (.invokevirtual 180, 3) := by decide +kernel
theorem dX8_passDay_4 : decode cX8_passDay 4 = .ok (.aload_n 0, 1) := by decide +kernel
theorem dX8_passDay_5 : decode cX8_passDay 5 = .ok (.getfield 70, 3) := by decide +kernel
theorem dX8_passDay_8 : decode cX8_passDay 8 = .ok (.ifCond .le 7, 3) := by decide +kernel
theorem dX8_passDay_11 : decode cX8_passDay 11 = .ok (.aload_n 0, 1) := by decide +kernel
theorem dX8_passDay_12 : decode cX8_passDay 12 = .ok (.invokevirtual 183, 3) := by decide +kernel
theorem dX8_passDay_15 : decode cX8_passDay 15 = .ok (.aload_n 0, 1) := by decide +kernel
theorem dX8_passDay_16 : decode cX8_passDay 16 = .ok (.invokevirtual 186, 3) := by decide +kernel
theorem dX8_passDay_19 : decode cX8_passDay 19 = .ok (.iconst 0, 1) := by decide +kernel
theorem dX8_passDay_20 : decode cX8_passDay 20 = .ok (.istore_n 1, 1) := by decide +kernel
theorem dX8_passDay_21 : decode cX8_passDay 21 = .ok (.iload_n 1, 1) := by decide +kernel
theorem dX8_passDay_22 : decode cX8_passDay 22 = .ok (.aload_n 0, 1) := by decide +kernel
theorem dX8_passDay_23 : decode cX8_passDay 23 = .ok (.getfield 67, 3) := by decide +kernel
theorem dX8_passDay_26 : decode cX8_passDay 26 = .ok (.if_icmp .ge 15, 3) := by decide +kernel
theorem dX8_passDay_29 : decode cX8_passDay 29 = .ok (.aload_n 0, 1) := by decide +kernel
theorem dX8_passDay_30 : decode cX8_passDay 30 = .ok (.iload_n 1, 1) := by decide +kernel
theorem dX8_passDay_31 : decode cX8_passDay 31 = .ok (.iconst 5, 1) := by decide +kernel
theorem dX8_passDay_32 : decode cX8_passDay 32 = .ok (.invokevirtual 189, 3) := by decide +kernel
theorem dX8_passDay_35 : decode cX8_passDay 35 = .ok (.iinc 1 1, 3) := by decide +kernel
theorem dX8_passDay_38 : decode cX8_passDay 38 = .ok (.goto (-17), 3) := by decide +kernel
theorem dX8_passDay_41 : decode cX8_passDay 41 = .ok (.aload_n 0, 1) := by decide +kernel
theorem dX8_passDay_42 : decode cX8_passDay 42 = .ok (.getfield 24, 3) := by decide +kernel
theorem dX8_passDay_45 : decode cX8_passDay 45 = .ok (.dup, 1) := by decide +kernel
theorem dX8_passDay_46 : decode cX8_passDay 46 = .ok (.getfield 140, 3) := by decide +kernel
theorem dX8_passDay_49 : decode cX8_passDay 49 = .ok (.iconst 1, 1) := by decide +kernel
theorem dX8_passDay_50 : decode cX8_passDay 50 = .ok (.iadd, 1) := by decide +kernel
theorem dX8_passDay_51 : decode cX8_passDay 51 = .ok (.putfield 140, 3) := by decide +kernel
theorem dX8_passDay_54 : decode cX8_passDay 54 = .ok (.return_, 1) := by decide +kernel
theorem dX8_walk_0 : decode cX8_walk 0 = .ok (.iconst 0, 1) := by decide +kernel
theorem dX8_walk_1 : decode cX8_walk 1 = .ok (.istore_n 1, 1) := by decide +kernel
theorem dX8_walk_2 : decode cX8_walk 2 = .ok (.iload_n 1, 1) := by decide +kernel
theorem dX8_walk_3 : decode cX8_walk 3 = .ok (.aload_n 0, 1) := by decide +kernel
theorem dX8_walk_4 : decode cX8_walk 4 = .ok (.getfield 37, 3) := by decide +kernel
theorem dX8_walk_7 : decode cX8_walk 7 = .ok (.getfield 192, 3) := by decide +kernel
theorem dX8_walk_10 : decode cX8_walk 10 = .ok (.if_icmp .ge 140, 3) := by decide +kernel
theorem dX8_walk_13 : decode cX8_walk 13 = .ok (.aload_n 0, 1) := by decide +kernel
theorem dX8_walk_14 : decode cX8_walk 14 = .ok (.getfield 37, 3) := by decide +kernel
theorem dX8_walk_17 : decode cX8_walk 17 = .ok (.iload_n 1, 1) := by decide +kernel
theorem dX8_walk_18 : decode cX8_walk 18 = .ok (.iconst 0, 1) := by decide +kernel
theorem dX8_walk_19 : decode cX8_walk 19 = .ok (.invokevirtual 195, 3) := by decide +kernel
theorem dX8_walk_22 : decode cX8_walk 22 = .ok (.aload_n 0, 1) := by decide +kernel
theorem dX8_walk_23 : decode cX8_walk 23 = .ok (.getfield 24, 3) := by decide +kernel
theorem dX8_walk_26 : decode cX8_walk 26 = .ok (.getfield 140, 3) := by decide +kernel
theorem dX8_walk_29 : decode cX8_walk 29 = .ok (.if_icmp .eq 6, 3) := by decide +kernel
theorem dX8_walk_32 : decode cX8_walk 32 = .ok (.goto 112, 3) := by decide +kernel
theorem dX8_walk_35 : decode cX8_walk 35 = .ok (.aload_n 0, 1) := by decide +kernel
theorem dX8_walk_36 : decode cX8_walk 36 = .ok (.getfield 37, 3) := by decide +kernel
theorem dX8_walk_39 : decode cX8_walk 39 = .ok (.iload_n 1, 1) := by decide +kernel
theorem dX8_walk_40 : decode cX8_walk 40 = .ok (.iconst 1, 1) := by decide +kernel
theorem dX8_walk_41 : decode cX8_walk 41 = .ok (.invokevirtual 195, 3) := by decide +kernel
theorem dX8_walk_44 : decode cX8_walk 44 = .ok (.istore_n 2, 1) := by decide +kernel
theorem dX8_walk_45 : decode cX8_walk 45 = .ok (.aload_n 0, 1) := by decide +kernel
theorem dX8_walk_46 : decode cX8_walk 46 = .ok (.getfield 37, 3) := by decide +kernel
theorem dX8_walk_49 : decode cX8_walk 49 = .ok (.iload_n 1, 1) := by decide +kernel
theorem dX8_walk_50 : decode cX8_walk 50 = .ok (.iconst 2, 1) := by decide +kernel
theorem dX8_walk_51 : decode cX8_walk 51 = .ok (.invokevirtual 195, 3) := by decide +kernel
theorem dX8_walk_54 : decode cX8_walk 54 = .ok (.istore_n 3, 1) := by decide +kernel
theorem dX8_walk_55 : decode cX8_walk 55 = .ok (.aload_n 0, 1) := by decide +kernel
theorem dX8_walk_56 : decode cX8_walk 56 = .ok (.getfield 37, 3) := by decide +kernel
theorem dX8_walk_59 : decode cX8_walk 59 = .ok (.iload_n 1, 1) := by decide +kernel
theorem dX8_walk_60 : decode cX8_walk 60 = .ok (.iconst 3, 1) := by decide +kernel
theorem dX8_walk_61 : decode cX8_walk 61 = .ok (.invokevirtual 195, 3) := by decide +kernel
theorem dX8_walk_64 : decode cX8_walk 64 = .ok (.istore 4, 2) := by decide +kernel
theorem dX8_walk_66 : decode cX8_walk 66 = .ok (.iload_n 3, 1) := by decide +kernel
theorem dX8_walk_67 : decode cX8_walk 67 = .ok (.bipush 119, 2) := by decide +kernel
theorem dX8_walk_69 : decode cX8_walk 69 = .ok (.if_icmp .ne 13, 3) := by decide +kernel
theorem dX8_walk_72 : decode cX8_walk 72 = .ok (.aload_n 0, 1) := by decide +kernel
theorem dX8_walk_73 : decode cX8_walk 73 = .ok (.iload_n 2, 1) := by decide +kernel
theorem dX8_walk_74 : decode cX8_walk 74 = .ok (.bipush 20, 2) := by decide +kernel
theorem dX8_walk_76 : decode cX8_walk 76 = .ok (.invokevirtual 189, 3) := by decide +kernel
theorem dX8_walk_79 : decode cX8_walk 79 = .ok (.goto 65, 3) := by decide +kernel
theorem dX8_walk_82 : decode cX8_walk 82 = .ok (.iload_n 3, 1) := by decide +kernel
theorem dX8_walk_83 : decode cX8_walk 83 = .ok (.bipush 118, 2) := by decide +kernel
theorem dX8_walk_85 : decode cX8_walk 85 = .ok (.if_icmp .ne 24, 3) := by decide +kernel
theorem dX8_walk_88 : decode cX8_walk 88 = .ok (.aload_n 0, 1) := by decide +kernel
theorem dX8_walk_89 : decode cX8_walk 89 = .ok (.iload_n 2, 1) := by decide +kernel
theorem dX8_walk_90 : decode cX8_walk 90 = .ok (.iload 4, 2) := by decide +kernel
theorem dX8_walk_92 : decode cX8_walk 92 = .ok (.invokevirtual 198, 3) := by decide +kernel
theorem dX8_walk_95 : decode cX8_walk 95 = .ok (.ifCond .eq 14, 3) := by decide +kernel
theorem dX8_walk_98 : decode cX8_walk 98 = .ok (.aload_n 0, 1) := by decide +kernel
theorem dX8_walk_99 : decode cX8_walk 99 = .ok (.iload_n 2, 1) := by decide +kernel
theorem dX8_walk_100 : decode cX8_walk 100 = .ok (.iload 4, 2) := by decide +kernel
theorem dX8_walk_102 : decode cX8_walk 102 = .ok (.invokevirtual 201, 3) := by decide +kernel
theorem dX8_walk_105 : decode cX8_walk 105 = .ok (.pop, 1) := by decide +kernel
theorem dX8_walk_106 : decode cX8_walk 106 = .ok (.goto 38, 3) := by decide +kernel
theorem dX8_walk_109 : decode cX8_walk 109 = .ok (.iload_n 3, 1) := by decide +kernel
theorem dX8_walk_110 : decode cX8_walk 110 = .ok (.bipush 117, 2) := by decide +kernel
theorem dX8_walk_112 : decode cX8_walk 112 = .ok (.if_icmp .ne 32, 3) := by decide +kernel
theorem dX8_walk_115 : decode cX8_walk 115 = .ok (.aload_n 0, 1) := by decide +kernel
theorem dX8_walk_116 : decode cX8_walk 116 = .ok (.iload_n 2, 1) := by decide +kernel
theorem dX8_walk_117 : decode cX8_walk 117 = .ok (.invokevirtual 99, 3) := by decide +kernel
theorem dX8_walk_120 : decode cX8_walk 120 = .ok (.ifCond .eq 24, 3) := by decide +kernel
theorem dX8_walk_123 : decode cX8_walk 123 = .ok (.aload_n 0, 1) := by decide +kernel
theorem dX8_walk_124 : decode cX8_walk 124 = .ok (.getfield 24, 3) := by decide +kernel
theorem dX8_walk_127 : decode cX8_walk 127 = .ok (.getfield 120, 3) := by decide +kernel
theorem dX8_walk_130 : decode cX8_walk 130 = .ok (.iload_n 2, 1) := by decide +kernel
theorem dX8_walk_131 : decode cX8_walk 131 = .ok (.iaload, 1) := by decide +kernel
theorem dX8_walk_132 : decode cX8_walk 132 = .ok (.iload 4, 2) := by decide +kernel
theorem dX8_walk_134 : decode cX8_walk 134 = .ok (.if_icmp .eq 10, 3) := by decide +kernel
theorem dX8_walk_137 : decode cX8_walk 137 = .ok (.aload_n 0, 1) := by decide +kernel
theorem dX8_walk_138 : decode cX8_walk 138 = .ok (.iload_n 2, 1) := by decide +kernel
theorem dX8_walk_139 : decode cX8_walk 139 = .ok (.iload 4, 2) := by decide +kernel
theorem dX8_walk_141 : decode cX8_walk 141 = .ok (.invokevirtual 204, 3) := by decide +kernel
theorem dX8_walk_144 : decode cX8_walk 144 = .ok (.iinc 1 1, 3) := by decide +kernel
theorem dX8_walk_147 : decode cX8_walk 147 = .ok (.goto (-145), 3) := by decide +kernel
theorem dX8_walk_150 : decode cX8_walk 150 = .ok (.return_, 1) := by decide +kernel
theorem dX8_breathe_0 : decode cX8_breathe 0 = .ok (.aload_n 0, 1) := by decide +kernel
theorem dX8_breathe_1 : decode cX8_breathe 1 = .ok (.iload_n 1, 1) := by decide +kernel
theorem dX8_breathe_2 : decode cX8_breathe 2 = .ok (.invokevirtual 99, 3) := by decide +kernel
theorem dX8_breathe_5 : decode cX8_breathe 5 = .ok (.ifCond .eq 28, 3) := by decide +kernel
theorem dX8_breathe_8 : decode cX8_breathe 8 = .ok (.aload_n 0, 1) := by decide +kernel
theorem dX8_breathe_9 : decode cX8_breathe 9 = .ok (.getfield 24, 3) := by decide +kernel
theorem dX8_breathe_12 : decode cX8_breathe 12 = .ok (.getfield 123, 3) := by decide +kernel
theorem dX8_breathe_15 : decode cX8_breathe 15 = .ok (.iload_n 1, 1) := by decide +kernel
theorem dX8_breathe_16 : decode cX8_breathe 16 = .ok (.bipush 99, 2) := by decide +kernel
theorem dX8_breathe_18 : decode cX8_breathe 18 = .ok (.aload_n 0, 1) := by decide +kernel
theorem dX8_breathe_19 : decode cX8_breathe 19 = .ok (.getfield 24, 3) := by decide +kernel
theorem dX8_breathe_22 : decode cX8_breathe 22 = .ok (.getfield 123, 3) := by decide +kernel
theorem dX8_breathe_25 : decode cX8_breathe 25 = .ok (.iload_n 1, 1) := by decide +kernel
theorem dX8_breathe_26 : decode cX8_breathe 26 = .ok (.iaload, 1) := by decide +kernel
theorem dX8_breathe_27 : decode cX8_breathe 27 = .ok (.iload_n 2, 1) := by decide +kernel
theorem dX8_breathe_28 : decode cX8_breathe 28 = .ok (.iadd, 1) := by decide +kernel
theorem dX8_breathe_29 : decode cX8_breathe 29 = .ok (.invokestatic 151, 3) := by decide +kernel
theorem dX8_breathe_32 : decode cX8_breathe 32 = .ok (.iastore, 1) := by decide +kernel
theorem dX8_breathe_33 : decode cX8_breathe 33 = .ok (.return_, 1) := by decide +kernel
theorem dX8_chatter_0 : decode cX8_chatter 0 = .ok (.iconst 0, 1) := by decide +kernel
theorem dX8_chatter_1 : decode cX8_chatter 1 = .ok (.istore_n 1, 1) := by decide +kernel
theorem dX8_chatter_2 : decode cX8_chatter 2 = .ok (.iload_n 1, 1) := by decide +kernel
theorem dX8_chatter_3 : decode cX8_chatter 3 = .ok (.aload_n 0, 1) := by decide +kernel
theorem dX8_chatter_4 : decode cX8_chatter 4 = .ok (.getfield 67, 3) := by decide +kernel
theorem dX8_chatter_7 : decode cX8_chatter 7 = .ok (.if_icmp .ge 58, 3) := by decide +kernel
theorem dX8_chatter_10 : decode cX8_chatter 10 = .ok (.aload_n 0, 1) := by decide +kernel
theorem dX8_chatter_11 : decode cX8_chatter 11 = .ok (.sipush 1000, 3) := by decide +kernel
theorem dX8_chatter_14 : decode cX8_chatter 14 = .ok (.invokevirtual 207, 3) := by decide +kernel
theorem dX8_chatter_17 : decode cX8_chatter 17 = .ok (.aload_n 0, 1) := by decide +kernel
theorem dX8_chatter_18 : decode cX8_chatter 18 = .ok (.getfield 70, 3) := by decide +kernel
theorem dX8_chatter_21 : decode cX8_chatter 21 = .ok (.if_icmp .ge 38, 3) := by decide +kernel
theorem dX8_chatter_24 : decode cX8_chatter 24 = .ok (.aload_n 0, 1) := by decide +kernel
theorem dX8_chatter_25 : decode cX8_chatter 25 = .ok (.aload_n 0, 1) := by decide +kernel
theorem dX8_chatter_26 : decode cX8_chatter 26 = .ok (.getfield 24, 3) := by decide +kernel
theorem dX8_chatter_29 : decode cX8_chatter 29 = .ok (.getfield 103, 3) := by decide +kernel
theorem dX8_chatter_32 : decode cX8_chatter 32 = .ok (.iload_n 1, 1) := by decide +kernel
theorem dX8_chatter_33 : decode cX8_chatter 33 = .ok (.iaload, 1) := by decide +kernel
theorem dX8_chatter_34 : decode cX8_chatter 34 = .ok (.aload_n 0, 1) := by decide +kernel
theorem dX8_chatter_35 : decode cX8_chatter 35 = .ok (.invokevirtual 106, 3) := by decide +kernel
theorem dX8_chatter_38 : decode cX8_chatter 38 = .ok (.iand, 1) := by decide +kernel
theorem dX8_chatter_39 : decode cX8_chatter 39 = .ok (.invokevirtual 210, 3) := by decide +kernel
theorem dX8_chatter_42 : decode cX8_chatter 42 = .ok (.istore_n 2, 1) := by decide +kernel
theorem dX8_chatter_43 : decode cX8_chatter 43 = .ok (.aload_n 0, 1) := by decide +kernel
theorem dX8_chatter_44 : decode cX8_chatter 44 = .ok (.iload_n 1, 1) := by decide +kernel
theorem dX8_chatter_45 : decode cX8_chatter 45 = .ok (.iload_n 2, 1) := by decide +kernel
theorem dX8_chatter_46 : decode cX8_chatter 46 = .ok (.invokevirtual 198, 3) := by decide +kernel
theorem dX8_chatter_49 : decode cX8_chatter 49 = .ok (.ifCond .eq 10, 3) := by decide +kernel
theorem dX8_chatter_52 : decode cX8_chatter 52 = .ok (.aload_n 0, 1) := by decide +kernel
theorem dX8_chatter_53 : decode cX8_chatter 53 = .ok (.iload_n 1, 1) := by decide +kernel
theorem dX8_chatter_54 : decode cX8_chatter 54 = .ok (.iload_n 2, 1) := by decide +kernel
theorem dX8_chatter_55 : decode cX8_chatter 55 = .ok (.invokevirtual 201, 3) := by decide +kernel
theorem dX8_chatter_58 : decode cX8_chatter 58 = .ok (.pop, 1) := by decide +kernel
theorem dX8_chatter_59 : decode cX8_chatter 59 = .ok (.iinc 1 1, 3) := by decide +kernel
theorem dX8_chatter_62 : decode cX8_chatter 62 = .ok (.goto (-60), 3) := by decide +kernel
theorem dX8_chatter_65 : decode cX8_chatter 65 = .ok (.return_, 1) := by decide +kernel
theorem dX8_draw_0 : decode cX8_draw 0 = .ok (.aload_n 0, 1) := by decide +kernel
theorem dX8_draw_1 : decode cX8_draw 1 = .ok (.getfield 24, 3) := by decide +kernel
theorem dX8_draw_4 : decode cX8_draw 4 = .ok (.aload_n 0, 1) := by decide +kernel
theorem dX8_draw_5 : decode cX8_draw 5 = .ok (.getfield 24, 3) := by decide +kernel
theorem dX8_draw_8 : decode cX8_draw 8 = .ok (.getfield 213, 3) := by decide +kernel
theorem dX8_draw_11 : decode cX8_draw 11 = .ok (.ldc 216, 2) := by decide +kernel
theorem dX8_draw_13 : decode cX8_draw 13 = .ok (.imul, 1) := by decide +kernel
theorem dX8_draw_14 : decode cX8_draw 14 = .ok (.ldc 217, 2) := by decide +kernel
theorem dX8_draw_16 : decode cX8_draw 16 = .ok (.iadd, 1) := by decide +kernel
theorem dX8_draw_17 : decode cX8_draw 17 = .ok (.putfield 213, 3) := by decide +kernel
theorem dX8_draw_20 : decode cX8_draw 20 = .ok (.iload_n 1, 1) := by decide +kernel
theorem dX8_draw_21 : decode cX8_draw 21 = .ok (.iconst 1, 1) := by decide +kernel
theorem dX8_draw_22 : decode cX8_draw 22 = .ok (.if_icmp .ge 7, 3) := by decide +kernel
theorem dX8_draw_25 : decode cX8_draw 25 = .ok (.iconst 0, 1) := by decide +kernel
theorem dX8_draw_26 : decode cX8_draw 26 = .ok (.goto 15, 3) := by decide +kernel
theorem dX8_draw_29 : decode cX8_draw 29 = .ok (.aload_n 0, 1) := by decide +kernel
theorem dX8_draw_30 : decode cX8_draw 30 = .ok (.getfield 24, 3) := by decide +kernel
theorem dX8_draw_33 : decode cX8_draw 33 = .ok (.getfield 213, 3) := by decide +kernel
theorem dX8_draw_36 : decode cX8_draw 36 = .ok (.bipush 8, 2) := by decide +kernel
theorem dX8_draw_38 : decode cX8_draw 38 = .ok (.iushr, 1) := by decide +kernel
theorem dX8_draw_39 : decode cX8_draw 39 = .ok (.iload_n 1, 1) := by decide +kernel
theorem dX8_draw_40 : decode cX8_draw 40 = .ok (.irem, 1) := by decide +kernel
theorem dX8_draw_41 : decode cX8_draw 41 = .ok (.ireturn, 1) := by decide +kernel
theorem dX8_longestUnsaid_0 : decode cX8_longestUnsaid 0 = .ok (.iconst (-1), 1) := by decide +kernel
theorem dX8_longestUnsaid_1 : decode cX8_longestUnsaid 1 = .ok (.istore_n 2, 1) := by decide +kernel
theorem dX8_longestUnsaid_2 : decode cX8_longestUnsaid 2 = .ok (.iconst 0, 1) := by decide +kernel
theorem dX8_longestUnsaid_3 : decode cX8_longestUnsaid 3 = .ok (.istore_n 3, 1) := by decide +kernel
theorem dX8_longestUnsaid_4 : decode cX8_longestUnsaid 4 = .ok (.iload_n 3, 1) := by decide +kernel
theorem dX8_longestUnsaid_5 : decode cX8_longestUnsaid 5 = .ok (.aload_n 0, 1) := by decide +kernel
theorem dX8_longestUnsaid_6 : decode cX8_longestUnsaid 6 = .ok (.getfield 63, 3) := by decide +kernel
theorem dX8_longestUnsaid_9 : decode cX8_longestUnsaid 9 = .ok (.if_icmp .ge 45, 3) := by decide +kernel
theorem dX8_longestUnsaid_12 : decode cX8_longestUnsaid 12 = .ok (.iload_n 1, 1) := by decide +kernel
theorem dX8_longestUnsaid_13 : decode cX8_longestUnsaid 13 = .ok (.iload_n 3, 1) := by decide +kernel
theorem dX8_longestUnsaid_14 : decode cX8_longestUnsaid 14 = .ok (.invokestatic 95, 3) := by decide +kernel
theorem dX8_longestUnsaid_17 : decode cX8_longestUnsaid 17 = .ok (.ifCond .eq 31, 3) := by decide +kernel
theorem dX8_longestUnsaid_20 : decode cX8_longestUnsaid 20 = .ok (.iload_n 2, 1) := by decide +kernel
theorem dX8_longestUnsaid_21 : decode cX8_longestUnsaid 21 = .ok (.iconst (-1), 1) := by decide +kernel
theorem dX8_longestUnsaid_22 : decode cX8_longestUnsaid 22 = .ok (.if_icmp .eq 24, 3) := by decide +kernel
theorem dX8_longestUnsaid_25 : decode cX8_longestUnsaid 25 = .ok (.aload_n 0, 1) := by decide +kernel
theorem dX8_longestUnsaid_26 : decode cX8_longestUnsaid 26 = .ok (.getfield 24, 3) := by decide +kernel
theorem dX8_longestUnsaid_29 : decode cX8_longestUnsaid 29 = .ok (.getfield 114, 3) := by decide +kernel
theorem dX8_longestUnsaid_32 : decode cX8_longestUnsaid 32 = .ok (.iload_n 3, 1) := by decide +kernel
theorem dX8_longestUnsaid_33 : decode cX8_longestUnsaid 33 = .ok (.iaload, 1) := by decide +kernel
theorem dX8_longestUnsaid_34 : decode cX8_longestUnsaid 34 = .ok (.aload_n 0, 1) := by decide +kernel
theorem dX8_longestUnsaid_35 : decode cX8_longestUnsaid 35 = .ok (.getfield 24, 3) := by decide +kernel
theorem dX8_longestUnsaid_38 : decode cX8_longestUnsaid 38 = .ok (.getfield 114, 3) := by decide +kernel
theorem dX8_longestUnsaid_41 : decode cX8_longestUnsaid 41 = .ok (.iload_n 2, 1) := by decide +kernel
theorem dX8_longestUnsaid_42 : decode cX8_longestUnsaid 42 = .ok (.iaload, 1) := by decide +kernel
theorem dX8_longestUnsaid_43 : decode cX8_longestUnsaid 43 = .ok (.if_icmp .le 5, 3) := by decide +kernel
theorem dX8_longestUnsaid_46 : decode cX8_longestUnsaid 46 = .ok (.iload_n 3, 1) := by decide +kernel
theorem dX8_longestUnsaid_47 : decode cX8_longestUnsaid 47 = .ok (.istore_n 2, 1) := by decide +kernel
theorem dX8_longestUnsaid_48 : decode cX8_longestUnsaid 48 = .ok (.iinc 3 1, 3) := by decide +kernel
theorem dX8_longestUnsaid_51 : decode cX8_longestUnsaid 51 = .ok (.goto (-47), 3) := by decide +kernel
theorem dX8_longestUnsaid_54 : decode cX8_longestUnsaid 54 = .ok (.iload_n 2, 1) := by decide +kernel
theorem dX8_longestUnsaid_55 : decode cX8_longestUnsaid 55 = .ok (.ireturn, 1) := by decide +kernel
theorem dX8_age_0 : decode cX8_age 0 = .ok (.iconst 0, 1) := by decide +kernel
theorem dX8_age_1 : decode cX8_age 1 = .ok (.istore_n 1, 1) := by decide +kernel
theorem dX8_age_2 : decode cX8_age 2 = .ok (.iload_n 1, 1) := by decide +kernel
theorem dX8_age_3 : decode cX8_age 3 = .ok (.aload_n 0, 1) := by decide +kernel
theorem dX8_age_4 : decode cX8_age 4 = .ok (.getfield 63, 3) := by decide +kernel
theorem dX8_age_7 : decode cX8_age 7 = .ok (.if_icmp .ge 71, 3) := by decide +kernel
theorem dX8_age_10 : decode cX8_age 10 = .ok (.aload_n 0, 1) := by decide +kernel
theorem dX8_age_11 : decode cX8_age 11 = .ok (.iload_n 1, 1) := by decide +kernel
theorem dX8_age_12 : decode cX8_age 12 = .ok (.invokevirtual 163, 3) := by decide +kernel
theorem dX8_age_15 : decode cX8_age 15 = .ok (.ifCond .eq 6, 3) := by decide +kernel
theorem dX8_age_18 : decode cX8_age 18 = .ok (.goto 54, 3) := by decide +kernel
theorem dX8_age_21 : decode cX8_age 21 = .ok (.aload_n 0, 1) := by decide +kernel
theorem dX8_age_22 : decode cX8_age 22 = .ok (.getfield 24, 3) := by decide +kernel
theorem dX8_age_25 : decode cX8_age 25 = .ok (.getfield 114, 3) := by decide +kernel
theorem dX8_age_28 : decode cX8_age 28 = .ok (.iload_n 1, 1) := by decide +kernel
theorem dX8_age_29 : decode cX8_age 29 = .ok (.sipush 9999, 3) := by decide +kernel
theorem dX8_age_32 : decode cX8_age 32 = .ok (.aload_n 0, 1) := by decide +kernel
theorem dX8_age_33 : decode cX8_age 33 = .ok (.getfield 24, 3) := by decide +kernel
theorem dX8_age_36 : decode cX8_age 36 = .ok (.getfield 114, 3) := by decide +kernel
theorem dX8_age_39 : decode cX8_age 39 = .ok (.iload_n 1, 1) := by decide +kernel
theorem dX8_age_40 : decode cX8_age 40 = .ok (.iaload, 1) := by decide +kernel
theorem dX8_age_41 : decode cX8_age 41 = .ok (.iconst 1, 1) := by decide +kernel
theorem dX8_age_42 : decode cX8_age 42 = .ok (.iadd, 1) := by decide +kernel
theorem dX8_age_43 : decode cX8_age 43 = .ok (.invokestatic 151, 3) := by decide +kernel
theorem dX8_age_46 : decode cX8_age 46 = .ok (.iastore, 1) := by decide +kernel
theorem dX8_age_47 : decode cX8_age 47 = .ok (.aload_n 0, 1) := by decide +kernel
theorem dX8_age_48 : decode cX8_age 48 = .ok (.getfield 24, 3) := by decide +kernel
theorem dX8_age_51 : decode cX8_age 51 = .ok (.getfield 114, 3) := by decide +kernel
theorem dX8_age_54 : decode cX8_age 54 = .ok (.iload_n 1, 1) := by decide +kernel
theorem dX8_age_55 : decode cX8_age 55 = .ok (.iaload, 1) := by decide +kernel
theorem dX8_age_56 : decode cX8_age 56 = .ok (.aload_n 0, 1) := by decide +kernel
theorem dX8_age_57 : decode cX8_age 57 = .ok (.bipush 104, 2) := by decide +kernel
theorem dX8_age_59 : decode cX8_age 59 = .ok (.iload_n 1, 1) := by decide +kernel
theorem dX8_age_60 : decode cX8_age 60 = .ok (.iconst 0, 1) := by decide +kernel
theorem dX8_age_61 : decode cX8_age 61 = .ok (.invokevirtual 166, 3) := by decide +kernel
theorem dX8_age_64 : decode cX8_age 64 = .ok (.if_icmp .lt 8, 3) := by decide +kernel
theorem dX8_age_67 : decode cX8_age 67 = .ok (.aload_n 0, 1) := by decide +kernel
theorem dX8_age_68 : decode cX8_age 68 = .ok (.iload_n 1, 1) := by decide +kernel
theorem dX8_age_69 : decode cX8_age 69 = .ok (.invokevirtual 218, 3) := by decide +kernel
theorem dX8_age_72 : decode cX8_age 72 = .ok (.iinc 1 1, 3) := by decide +kernel
theorem dX8_age_75 : decode cX8_age 75 = .ok (.goto (-73), 3) := by decide +kernel
theorem dX8_age_78 : decode cX8_age 78 = .ok (.return_, 1) := by decide +kernel
theorem dX8_lapse_0 : decode cX8_lapse 0 = .ok (.aload_n 0, 1) := by decide +kernel
theorem dX8_lapse_1 : decode cX8_lapse 1 = .ok (.getfield 24, 3) := by decide +kernel
theorem dX8_lapse_4 : decode cX8_lapse 4 = .ok (.dup, 1) := by decide +kernel
theorem dX8_lapse_5 : decode cX8_lapse 5 = .ok (.getfield 92, 3) := by decide +kernel
theorem dX8_lapse_8 : decode cX8_lapse 8 = .ok (.iconst 1, 1) := by decide +kernel
theorem dX8_lapse_9 : decode cX8_lapse 9 = .ok (.iload_n 1, 1) := by decide +kernel
theorem dX8_lapse_10 : decode cX8_lapse 10 = .ok (.ishl, 1) := by decide +kernel
theorem dX8_lapse_11 : decode cX8_lapse 11 = .ok (.ior, 1) := by decide +kernel
theorem dX8_lapse_12 : decode cX8_lapse 12 = .ok (.putfield 92, 3) := by decide +kernel
theorem dX8_lapse_15 : decode cX8_lapse 15 = .ok (.iconst 0, 1) := by decide +kernel
theorem dX8_lapse_16 : decode cX8_lapse 16 = .ok (.istore_n 2, 1) := by decide +kernel
theorem dX8_lapse_17 : decode cX8_lapse 17 = .ok (.iload_n 2, 1) := by decide +kernel
theorem dX8_lapse_18 : decode cX8_lapse 18 = .ok (.aload_n 0, 1) := by decide +kernel
theorem dX8_lapse_19 : decode cX8_lapse 19 = .ok (.getfield 67, 3) := by decide +kernel
theorem dX8_lapse_22 : decode cX8_lapse 22 = .ok (.if_icmp .ge 26, 3) := by decide +kernel
theorem dX8_lapse_25 : decode cX8_lapse 25 = .ok (.aload_n 0, 1) := by decide +kernel
theorem dX8_lapse_26 : decode cX8_lapse 26 = .ok (.getfield 24, 3) := by decide +kernel
theorem dX8_lapse_29 : decode cX8_lapse 29 = .ok (.getfield 103, 3) := by decide +kernel
theorem dX8_lapse_32 : decode cX8_lapse 32 = .ok (.iload_n 2, 1) := by decide +kernel
theorem dX8_lapse_33 : decode cX8_lapse 33 = .ok (.dup2, 1) := by decide +kernel
theorem dX8_lapse_34 : decode cX8_lapse 34 = .ok (.iaload, 1) := by decide +kernel
theorem dX8_lapse_35 : decode cX8_lapse 35 = .ok (.iconst 1, 1) := by decide +kernel
theorem dX8_lapse_36 : decode cX8_lapse 36 = .ok (.iload_n 1, 1) := by decide +kernel
theorem dX8_lapse_37 : decode cX8_lapse 37 = .ok (.ishl, 1) := by decide +kernel
theorem dX8_lapse_38 : decode cX8_lapse 38 = .ok (.iconst (-1), 1) := by decide +kernel
theorem dX8_lapse_39 : decode cX8_lapse 39 = .ok (.ixor, 1) := by decide +kernel
theorem dX8_lapse_40 : decode cX8_lapse 40 = .ok (.iand, 1) := by decide +kernel
theorem dX8_lapse_41 : decode cX8_lapse 41 = .ok (.iastore, 1) := by decide +kernel
theorem dX8_lapse_42 : decode cX8_lapse 42 = .ok (.iinc 2 1, 3) := by decide +kernel
theorem dX8_lapse_45 : decode cX8_lapse 45 = .ok (.goto (-28), 3) := by decide +kernel
theorem dX8_lapse_48 : decode cX8_lapse 48 = .ok (.aload_n 0, 1) := by decide +kernel
theorem dX8_lapse_49 : decode cX8_lapse 49 = .ok (.getfield 33, 3) := by decide +kernel
theorem dX8_lapse_52 : decode cX8_lapse 52 = .ok (.aload_n 0, 1) := by decide +kernel
theorem dX8_lapse_53 : decode cX8_lapse 53 = .ok (.getfield 24, 3) := by decide +kernel
theorem dX8_lapse_56 : decode cX8_lapse 56 = .ok (.getfield 140, 3) := by decide +kernel
theorem dX8_lapse_59 : decode cX8_lapse 59 = .ok (.iconst 2, 1) := by decide +kernel
theorem dX8_lapse_60 : decode cX8_lapse 60 = .ok (.iconst (-1), 1) := by decide +kernel
theorem dX8_lapse_61 : decode cX8_lapse 61 = .ok (.iload_n 1, 1) := by decide +kernel
theorem dX8_lapse_62 : decode cX8_lapse 62 = .ok (.invokevirtual 176, 3) := by decide +kernel
theorem dX8_lapse_65 : decode cX8_lapse 65 = .ok (.return_, 1) := by decide +kernel
theorem dX9_init_0 : decode cX9_init 0 = .ok (.aload_n 0, 1) := by decide +kernel
theorem dX9_init_1 : decode cX9_init 1 = .ok (.invokespecial 3, 3) := by decide +kernel
theorem dX9_init_4 : decode cX9_init 4 = .ok (.aload_n 0, 1) := by decide +kernel
theorem dX9_init_5 : decode cX9_init 5 = .ok (.new 9, 3) := by decide +kernel
theorem dX9_init_8 : decode cX9_init 8 = .ok (.dup, 1) := by decide +kernel
theorem dX9_init_9 : decode cX9_init 9 = .ok (.invokespecial 11, 3) := by decide +kernel
theorem dX9_init_12 : decode cX9_init 12 = .ok (.putfield 12, 3) := by decide +kernel
theorem dX9_init_15 : decode cX9_init 15 = .ok (.aload_n 0, 1) := by decide +kernel
theorem dX9_init_16 : decode cX9_init 16 = .ok (.new 9, 3) := by decide +kernel
theorem dX9_init_19 : decode cX9_init 19 = .ok (.dup, 1) := by decide +kernel
theorem dX9_init_20 : decode cX9_init 20 = .ok (.invokespecial 11, 3) := by decide +kernel
theorem dX9_init_23 : decode cX9_init 23 = .ok (.putfield 16, 3) := by decide +kernel
theorem dX9_init_26 : decode cX9_init 26 = .ok (.aload_n 0, 1) := by decide +kernel
theorem dX9_init_27 : decode cX9_init 27 = .ok (.new 9, 3) := by decide +kernel
theorem dX9_init_30 : decode cX9_init 30 = .ok (.dup, 1) := by decide +kernel
theorem dX9_init_31 : decode cX9_init 31 = .ok (.invokespecial 11, 3) := by decide +kernel
theorem dX9_init_34 : decode cX9_init 34 = .ok (.putfield 19, 3) := by decide +kernel
theorem dX9_init_37 : decode cX9_init 37 = .ok (.aload_n 0, 1) := by decide +kernel
theorem dX9_init_38 : decode cX9_init 38 = .ok (.new 22, 3) := by decide +kernel
theorem dX9_init_41 : decode cX9_init 41 = .ok (.dup, 1) := by decide +kernel
theorem dX9_init_42 : decode cX9_init 42 = .ok (.invokespecial 24, 3) := by decide +kernel
theorem dX9_init_45 : decode cX9_init 45 = .ok (.putfield 25, 3) := by decide +kernel
theorem dX9_init_48 : decode cX9_init 48 = .ok (.aload_n 0, 1) := by decide +kernel
theorem dX9_init_49 : decode cX9_init 49 = .ok (.new 29, 3) := by decide +kernel
theorem dX9_init_52 : decode cX9_init 52 = .ok (.dup, 1) := by decide +kernel
theorem dX9_init_53 : decode cX9_init 53 = .ok (.invokespecial 31, 3) := by decide +kernel
theorem dX9_init_56 : decode cX9_init 56 = .ok (.putfield 32, 3) := by decide +kernel
theorem dX9_init_59 : decode cX9_init 59 = .ok (.aload_n 0, 1) := by decide +kernel
theorem dX9_init_60 : decode cX9_init 60 = .ok (.new 36, 3) := by decide +kernel
theorem dX9_init_63 : decode cX9_init 63 = .ok (.dup, 1) := by decide +kernel
theorem dX9_init_64 : decode cX9_init 64 = .ok (.invokespecial 38, 3) := by decide +kernel
theorem dX9_init_67 : decode cX9_init 67 = .ok (.putfield 39, 3) := by decide +kernel
theorem dX9_init_70 : decode cX9_init 70 = .ok (.aload_n 0, 1) := by decide +kernel
