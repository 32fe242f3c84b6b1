theorem dX10_putsText_54 : decode cX10_putsText 54 = .ok (.bipush 68, 2) := by decide +kernel
theorem dX10_putsText_56 : decode cX10_putsText 56 = .ok (.sipush 692, 3) := by decide +kernel
theorem dX10_putsText_59 : decode cX10_putsText 59 = .ok (.iconst 3, 1) := by decide +kernel
theorem dX10_putsText_60 : decode cX10_putsText 60 = .ok (.invokevirtual 266, 3) := by decide +kernel
theorem dX10_putsText_63 : decode cX10_putsText 63 = .ok (.ireturn, 1) := by decide +kernel
theorem dX10_text_0 : decode cX10_text 0 = .ok (.aload_n 0, 1) := by decide +kernel
theorem dX10_text_1 : decode cX10_text 1 = .ok (.iconst 0, 1) := by decide +kernel
theorem dX10_text_2 : decode cX10_text 2 = .ok (.putfield 270, 3) := by decide +kernel
theorem dX10_text_5 : decode cX10_text 5 = .ok (.aload_n 0, 1) := by decide +kernel
theorem dX10_text_6 : decode cX10_text 6 = .ok (.iconst (-1), 1) := by decide +kernel
theorem dX10_text_7 : decode cX10_text 7 = .ok (.putfield 46, 3) := by decide +kernel
theorem dX10_text_10 : decode cX10_text 10 = .ok (.iload_n 1, 1) := by decide +kernel
theorem dX10_text_11 : decode cX10_text 11 = .ok (.iconst 0, 1) := by decide +kernel
theorem dX10_text_12 : decode cX10_text 12 = .ok (.iconst 3, 1) := by decide +kernel
theorem dX10_text_13 : decode cX10_text 13 = .ok (.invokestatic 59, 3) := by decide +kernel
theorem dX10_text_16 : decode cX10_text 16 = .ok (.ifCond .ne 10, 3) := by decide +kernel
theorem dX10_text_19 : decode cX10_text 19 = .ok (.aload_n 0, 1) := by decide +kernel
theorem dX10_text_20 : decode cX10_text 20 = .ok (.iconst 0, 1) := by decide +kernel
theorem dX10_text_21 : decode cX10_text 21 = .ok (.putfield 81, 3) := by decide +kernel
theorem dX10_text_24 : decode cX10_text 24 = .ok (.iconst (-1), 1) := by decide +kernel
theorem dX10_text_25 : decode cX10_text 25 = .ok (.ireturn, 1) := by decide +kernel
theorem dX10_text_26 : decode cX10_text 26 = .ok (.aload_n 0, 1) := by decide +kernel
theorem dX10_text_27 : decode cX10_text 27 = .ok (.iconst 0, 1) := by decide +kernel
theorem dX10_text_28 : decode cX10_text 28 = .ok (.putfield 183, 3) := by decide +kernel
theorem dX10_text_31 : decode cX10_text 31 = .ok (.aload_n 0, 1) := by decide +kernel
theorem dX10_text_32 : decode cX10_text 32 = .ok (.iconst 0, 1) := by decide +kernel
theorem dX10_text_33 : decode cX10_text 33 = .ok (.putfield 84, 3) := by decide +kernel
theorem dX10_text_36 : decode cX10_text 36 = .ok (.aload_n 0, 1) := by decide +kernel
theorem dX10_text_37 : decode cX10_text 37 = .ok (.iload_n 1, 1) := by decide +kernel
theorem dX10_text_38 : decode cX10_text 38 = .ok (.putfield 150, 3) := by decide +kernel
theorem dX10_text_41 : decode cX10_text 41 = .ok (.aload_n 0, 1) := by decide +kernel
theorem dX10_text_42 : decode cX10_text 42 = .ok (.invokevirtual 192, 3) := by decide +kernel
theorem dX10_text_45 : decode cX10_text 45 = .ok (.iload_n 1, 1) := by decide +kernel
theorem dX10_text_46 : decode cX10_text 46 = .ok (.iconst 1, 1) := by decide +kernel
theorem dX10_text_47 : decode cX10_text 47 = .ok (.if_icmp .ne 10, 3) := by decide +kernel
theorem dX10_text_50 : decode cX10_text 50 = .ok (.aload_n 0, 1) := by decide +kernel
theorem dX10_text_51 : decode cX10_text 51 = .ok (.invokevirtual 273, 3) := by decide +kernel
theorem dX10_text_54 : decode cX10_text 54 = .ok (.goto 7, 3) := by decide +kernel
theorem dX10_text_57 : decode cX10_text 57 = .ok (.aload_n 0, 1) := by decide +kernel
theorem dX10_text_58 : decode cX10_text 58 = .ok (.invokevirtual 276, 3) := by decide +kernel
theorem dX10_text_61 : decode cX10_text 61 = .ok (.istore_n 2, 1) := by decide +kernel
theorem dX10_text_62 : decode cX10_text 62 = .ok (.aload_n 0, 1) := by decide +kernel
theorem dX10_text_63 : decode cX10_text 63 = .ok (.iconst 0, 1) := by decide +kernel
theorem dX10_text_64 : decode cX10_text 64 = .ok (.putfield 81, 3) := by decide +kernel
theorem dX10_text_67 : decode cX10_text 67 = .ok (.iload_n 2, 1) := by decide +kernel
theorem dX10_text_68 : decode cX10_text 68 = .ok (.ifCond .eq 9, 3) := by decide +kernel
theorem dX10_text_71 : decode cX10_text 71 = .ok (.aload_n 0, 1) := by decide +kernel
theorem dX10_text_72 : decode cX10_text 72 = .ok (.iload_n 1, 1) := by decide +kernel
theorem dX10_text_73 : decode cX10_text 73 = .ok (.invokevirtual 279, 3) := by decide +kernel
theorem dX10_text_76 : decode cX10_text 76 = .ok (.ireturn, 1) := by decide +kernel
theorem dX10_text_77 : decode cX10_text 77 = .ok (.aload_n 0, 1) := by decide +kernel
theorem dX10_text_78 : decode cX10_text 78 = .ok (.aload_n 0, 1) := by decide +kernel
theorem dX10_text_79 : decode cX10_text 79 = .ok (.getfield 183, 3) := by decide +kernel
theorem dX10_text_82 : decode cX10_text 82 = .ok (.putfield 270, 3) := by decide +kernel
theorem dX10_text_85 : decode cX10_text 85 = .ok (.aload_n 0, 1) := by decide +kernel
theorem dX10_text_86 : decode cX10_text 86 = .ok (.aload_n 0, 1) := by decide +kernel
theorem dX10_text_87 : decode cX10_text 87 = .ok (.getfield 186, 3) := by decide +kernel
theorem dX10_text_90 : decode cX10_text 90 = .ok (.putfield 46, 3) := by decide +kernel
theorem dX10_text_93 : decode cX10_text 93 = .ok (.iconst (-1), 1) := by decide +kernel
theorem dX10_text_94 : decode cX10_text 94 = .ok (.ireturn, 1) := by decide +kernel
theorem dX10_fault_0 : decode cX10_fault 0 = .ok (.iload_n 1, 1) := by decide +kernel
theorem dX10_fault_1 : decode cX10_fault 1 = .ok (.ifCond .ne 10, 3) := by decide +kernel
theorem dX10_fault_4 : decode cX10_fault 4 = .ok (.aload_n 0, 1) := by decide +kernel
theorem dX10_fault_5 : decode cX10_fault 5 = .ok (.getfield 270, 3) := by decide +kernel
theorem dX10_fault_8 : decode cX10_fault 8 = .ok (.goto 16, 3) := by decide +kernel
theorem dX10_fault_11 : decode cX10_fault 11 = .ok (.iload_n 1, 1) := by decide +kernel
theorem dX10_fault_12 : decode cX10_fault 12 = .ok (.iconst 1, 1) := by decide +kernel
theorem dX10_fault_13 : decode cX10_fault 13 = .ok (.if_icmp .ne 10, 3) := by decide +kernel
theorem dX10_fault_16 : decode cX10_fault 16 = .ok (.aload_n 0, 1) := by decide +kernel
theorem dX10_fault_17 : decode cX10_fault 17 = .ok (.getfield 46, 3) := by decide +kernel
theorem dX10_fault_20 : decode cX10_fault 20 = .ok (.goto 4, 3) := by decide +kernel
theorem dX10_fault_23 : decode cX10_fault 23 = .ok (.iconst (-1), 1) := by decide +kernel
theorem dX10_fault_24 : decode cX10_fault 24 = .ok (.ireturn, 1) := by decide +kernel
theorem dX10_both_0 : decode cX10_both 0 = .ok (.iload_n 0, 1) := by decide +kernel
theorem dX10_both_1 : decode cX10_both 1 = .ok (.tableswitch 100 23 31 #[51, 55, 59, 100, 63, 74, 85, 100, 96], 51) := by decide +kernel
theorem dX10_both_52 : decode cX10_both 52 = .ok (.iload_n 1, 1) := by decide +kernel
theorem dX10_both_53 : decode cX10_both 53 = .ok (.iload_n 2, 1) := by decide +kernel
theorem dX10_both_54 : decode cX10_both 54 = .ok (.iadd, 1) := by decide +kernel
theorem dX10_both_55 : decode cX10_both 55 = .ok (.ireturn, 1) := by decide +kernel
theorem dX10_both_56 : decode cX10_both 56 = .ok (.iload_n 1, 1) := by decide +kernel
theorem dX10_both_57 : decode cX10_both 57 = .ok (.iload_n 2, 1) := by decide +kernel
theorem dX10_both_58 : decode cX10_both 58 = .ok (.isub, 1) := by decide +kernel
theorem dX10_both_59 : decode cX10_both 59 = .ok (.ireturn, 1) := by decide +kernel
theorem dX10_both_60 : decode cX10_both 60 = .ok (.iload_n 1, 1) := by decide +kernel
theorem dX10_both_61 : decode cX10_both 61 = .ok (.iload_n 2, 1) := by decide +kernel
theorem dX10_both_62 : decode cX10_both 62 = .ok (.imul, 1) := by decide +kernel
theorem dX10_both_63 : decode cX10_both 63 = .ok (.ireturn, 1) := by decide +kernel
theorem dX10_both_64 : decode cX10_both 64 = .ok (.iload_n 1, 1) := by decide +kernel
theorem dX10_both_65 : decode cX10_both 65 = .ok (.iload_n 2, 1) := by decide +kernel
theorem dX10_both_66 : decode cX10_both 66 = .ok (.if_icmp .ge 7, 3) := by decide +kernel
theorem dX10_both_69 : decode cX10_both 69 = .ok (.iconst 1, 1) := by decide +kernel
theorem dX10_both_70 : decode cX10_both 70 = .ok (.goto 4, 3) := by decide +kernel
theorem dX10_both_73 : decode cX10_both 73 = .ok (.iconst 0, 1) := by decide +kernel
theorem dX10_both_74 : decode cX10_both 74 = .ok (.ireturn, 1) := by decide +kernel
theorem dX10_both_75 : decode cX10_both 75 = .ok (.iload_n 1, 1) := by decide +kernel
theorem dX10_both_76 : decode cX10_both 76 = .ok (.iload_n 2, 1) := by decide +kernel
theorem dX10_both_77 : decode cX10_both 77 = .ok (.if_icmp .ne 7, 3) := by decide +kernel
theorem dX10_both_80 : decode cX10_both 80 = .ok (.iconst 1, 1) := by decide +kernel
theorem dX10_both_81 : decode cX10_both 81 = .ok (.goto 4, 3) := by decide +kernel
theorem dX10_both_84 : decode cX10_both 84 = .ok (.iconst 0, 1) := by decide +kernel
theorem dX10_both_85 : decode cX10_both 85 = .ok (.ireturn, 1) := by decide +kernel
theorem dX10_both_86 : decode cX10_both 86 = .ok (.iload_n 1, 1) := by decide +kernel
theorem dX10_both_87 : decode cX10_both 87 = .ok (.iload_n 2, 1) := by decide +kernel
theorem dX10_both_88 : decode cX10_both 88 = .ok (.if_icmp .le 7, 3) := by decide +kernel
theorem dX10_both_91 : decode cX10_both 91 = .ok (.iconst 1, 1) := by decide +kernel
theorem dX10_both_92 : decode cX10_both 92 = .ok (.goto 4, 3) := by decide +kernel
theorem dX10_both_95 : decode cX10_both 95 = .ok (.iconst 0, 1) := by decide +kernel
theorem dX10_both_96 : decode cX10_both 96 = .ok (.ireturn, 1) := by decide +kernel
theorem dX10_both_97 : decode cX10_both 97 = .ok (.iload_n 1, 1) := by decide +kernel
theorem dX10_both_98 : decode cX10_both 98 = .ok (.iload_n 2, 1) := by decide +kernel
theorem dX10_both_99 : decode cX10_both 99 = .ok (.iand, 1) := by decide +kernel
theorem dX10_both_100 : decode cX10_both 100 = .ok (.ireturn, 1) := by decide +kernel
theorem dX10_both_101 : decode cX10_both 101 = .ok (.iload_n 1, 1) := by decide +kernel
theorem dX10_both_102 : decode cX10_both 102 = .ok (.iload_n 2, 1) := by decide +kernel
theorem dX10_both_103 : decode cX10_both 103 = .ok (.ior, 1) := by decide +kernel
theorem dX10_both_104 : decode cX10_both 104 = .ok (.ireturn, 1) := by decide +kernel
theorem dX10_comesTo_0 : decode cX10_comesTo 0 = .ok (.iconst 0, 1) := by decide +kernel
theorem dX10_comesTo_1 : decode cX10_comesTo 1 = .ok (.istore 4, 2) := by decide +kernel
theorem dX10_comesTo_3 : decode cX10_comesTo 3 = .ok (.iload_n 2, 1) := by decide +kernel
theorem dX10_comesTo_4 : decode cX10_comesTo 4 = .ok (.istore 5, 2) := by decide +kernel
theorem dX10_comesTo_6 : decode cX10_comesTo 6 = .ok (.iload 5, 2) := by decide +kernel
theorem dX10_comesTo_8 : decode cX10_comesTo 8 = .ok (.iload_n 3, 1) := by decide +kernel
theorem dX10_comesTo_9 : decode cX10_comesTo 9 = .ok (.if_icmp .ge 177, 3) := by decide +kernel
theorem dX10_comesTo_12 : decode cX10_comesTo 12 = .ok (.aload_n 0, 1) := by decide +kernel
theorem dX10_comesTo_13 : decode cX10_comesTo 13 = .ok (.getfield 7, 3) := by decide +kernel
theorem dX10_comesTo_16 : decode cX10_comesTo 16 = .ok (.sipush 1412, 3) := by decide +kernel
theorem dX10_comesTo_19 : decode cX10_comesTo 19 = .ok (.sipush 820, 3) := by decide +kernel
theorem dX10_comesTo_22 : decode cX10_comesTo 22 = .ok (.iload_n 1, 1) := by decide +kernel
theorem dX10_comesTo_23 : decode cX10_comesTo 23 = .ok (.imul, 1) := by decide +kernel
theorem dX10_comesTo_24 : decode cX10_comesTo 24 = .ok (.iadd, 1) := by decide +kernel
theorem dX10_comesTo_25 : decode cX10_comesTo 25 = .ok (.iconst 2, 1) := by decide +kernel
theorem dX10_comesTo_26 : decode cX10_comesTo 26 = .ok (.iload 5, 2) := by decide +kernel
theorem dX10_comesTo_28 : decode cX10_comesTo 28 = .ok (.imul, 1) := by decide +kernel
theorem dX10_comesTo_29 : decode cX10_comesTo 29 = .ok (.iadd, 1) := by decide +kernel
theorem dX10_comesTo_30 : decode cX10_comesTo 30 = .ok (.iaload, 1) := by decide +kernel
theorem dX10_comesTo_31 : decode cX10_comesTo 31 = .ok (.istore 6, 2) := by decide +kernel
theorem dX10_comesTo_33 : decode cX10_comesTo 33 = .ok (.aload_n 0, 1) := by decide +kernel
theorem dX10_comesTo_34 : decode cX10_comesTo 34 = .ok (.getfield 7, 3) := by decide +kernel
theorem dX10_comesTo_37 : decode cX10_comesTo 37 = .ok (.sipush 1412, 3) := by decide +kernel
theorem dX10_comesTo_40 : decode cX10_comesTo 40 = .ok (.sipush 820, 3) := by decide +kernel
theorem dX10_comesTo_43 : decode cX10_comesTo 43 = .ok (.iload_n 1, 1) := by decide +kernel
theorem dX10_comesTo_44 : decode cX10_comesTo 44 = .ok (.imul, 1) := by decide +kernel
theorem dX10_comesTo_45 : decode cX10_comesTo 45 = .ok (.iadd, 1) := by decide +kernel
theorem dX10_comesTo_46 : decode cX10_comesTo 46 = .ok (.iconst 2, 1) := by decide +kernel
theorem dX10_comesTo_47 : decode cX10_comesTo 47 = .ok (.iload 5, 2) := by decide +kernel
theorem dX10_comesTo_49 : decode cX10_comesTo 49 = .ok (.imul, 1) := by decide +kernel
theorem dX10_comesTo_50 : decode cX10_comesTo 50 = .ok (.iadd, 1) := by decide +kernel
theorem dX10_comesTo_51 : decode cX10_comesTo 51 = .ok (.iconst 1, 1) := by decide +kernel
theorem dX10_comesTo_52 : decode cX10_comesTo 52 = .ok (.iadd, 1) := by decide +kernel
theorem dX10_comesTo_53 : decode cX10_comesTo 53 = .ok (.iaload, 1) := by decide +kernel
theorem dX10_comesTo_54 : decode cX10_comesTo 54 = .ok (.istore 7, 2) := by decide +kernel
theorem dX10_comesTo_56 : decode cX10_comesTo 56 = .ok (.iload 6, 2) := by decide +kernel
theorem dX10_comesTo_58 : decode cX10_comesTo 58 = .ok (.bipush 23, 2) := by decide +kernel
theorem dX10_comesTo_60 : decode cX10_comesTo 60 = .ok (.if_icmp .ge 33, 3) := by decide +kernel
theorem dX10_comesTo_63 : decode cX10_comesTo 63 = .ok (.aload_n 0, 1) := by decide +kernel
theorem dX10_comesTo_64 : decode cX10_comesTo 64 = .ok (.getfield 40, 3) := by decide +kernel
theorem dX10_comesTo_67 : decode cX10_comesTo 67 = .ok (.iload 4, 2) := by decide +kernel
theorem dX10_comesTo_69 : decode cX10_comesTo 69 = .ok (.iload 6, 2) := by decide +kernel
theorem dX10_comesTo_71 : decode cX10_comesTo 71 = .ok (.ifCond .ne 8, 3) := by decide +kernel
theorem dX10_comesTo_74 : decode cX10_comesTo 74 = .ok (.iload 7, 2) := by decide +kernel
theorem dX10_comesTo_76 : decode cX10_comesTo 76 = .ok (.goto 10, 3) := by decide +kernel
theorem dX10_comesTo_79 : decode cX10_comesTo 79 = .ok (.aload_n 0, 1) := by decide +kernel
theorem dX10_comesTo_80 : decode cX10_comesTo 80 = .ok (.getfield 43, 3) := by decide +kernel
theorem dX10_comesTo_83 : decode cX10_comesTo 83 = .ok (.iload 6, 2) := by decide +kernel
theorem dX10_comesTo_85 : decode cX10_comesTo 85 = .ok (.iaload, 1) := by decide +kernel
theorem dX10_comesTo_86 : decode cX10_comesTo 86 = .ok (.iastore, 1) := by decide +kernel
theorem dX10_comesTo_87 : decode cX10_comesTo 87 = .ok (.iinc 4 1, 3) := by decide +kernel
theorem dX10_comesTo_90 : decode cX10_comesTo 90 = .ok (.goto 90, 3) := by decide +kernel
theorem dX10_comesTo_93 : decode cX10_comesTo 93 = .ok (.iload 6, 2) := by decide +kernel
theorem dX10_comesTo_95 : decode cX10_comesTo 95 = .ok (.bipush 26, 2) := by decide +kernel
theorem dX10_comesTo_97 : decode cX10_comesTo 97 = .ok (.if_icmp .ne 20, 3) := by decide +kernel
theorem dX10_comesTo_100 : decode cX10_comesTo 100 = .ok (.aload_n 0, 1) := by decide +kernel
theorem dX10_comesTo_101 : decode cX10_comesTo 101 = .ok (.getfield 40, 3) := by decide +kernel
theorem dX10_comesTo_104 : decode cX10_comesTo 104 = .ok (.iload 4, 2) := by decide +kernel
theorem dX10_comesTo_106 : decode cX10_comesTo 106 = .ok (.iconst 1, 1) := by decide +kernel
theorem dX10_comesTo_107 : decode cX10_comesTo 107 = .ok (.isub, 1) := by decide +kernel
theorem dX10_comesTo_108 : decode cX10_comesTo 108 = .ok (.dup2, 1) := by decide +kernel
theorem dX10_comesTo_109 : decode cX10_comesTo 109 = .ok (.iaload, 1) := by decide +kernel
theorem dX10_comesTo_110 : decode cX10_comesTo 110 = .ok (.iload 7, 2) := by decide +kernel
theorem dX10_comesTo_112 : decode cX10_comesTo 112 = .ok (.idiv, 1) := by decide +kernel
theorem dX10_comesTo_113 : decode cX10_comesTo 113 = .ok (.iastore, 1) := by decide +kernel
theorem dX10_comesTo_114 : decode cX10_comesTo 114 = .ok (.goto 66, 3) := by decide +kernel
theorem dX10_comesTo_117 : decode cX10_comesTo 117 = .ok (.iload 6, 2) := by decide +kernel
theorem dX10_comesTo_119 : decode cX10_comesTo 119 = .ok (.bipush 30, 2) := by decide +kernel
theorem dX10_comesTo_121 : decode cX10_comesTo 121 = .ok (.if_icmp .ne 26, 3) := by decide +kernel
theorem dX10_comesTo_124 : decode cX10_comesTo 124 = .ok (.aload_n 0, 1) := by decide +kernel
theorem dX10_comesTo_125 : decode cX10_comesTo 125 = .ok (.getfield 40, 3) := by decide +kernel
theorem dX10_comesTo_128 : decode cX10_comesTo 128 = .ok (.iload 4, 2) := by decide +kernel
theorem dX10_comesTo_130 : decode cX10_comesTo 130 = .ok (.iconst 1, 1) := by decide +kernel
theorem dX10_comesTo_131 : decode cX10_comesTo 131 = .ok (.isub, 1) := by decide +kernel
theorem dX10_comesTo_132 : decode cX10_comesTo 132 = .ok (.iconst 1, 1) := by decide +kernel
theorem dX10_comesTo_133 : decode cX10_comesTo 133 = .ok (.aload_n 0, 1) := by decide +kernel
theorem dX10_comesTo_134 : decode cX10_comesTo 134 = .ok (.getfield 40, 3) := by decide +kernel
theorem dX10_comesTo_137 : decode cX10_comesTo 137 = .ok (.iload 4, 2) := by decide +kernel
theorem dX10_comesTo_139 : decode cX10_comesTo 139 = .ok (.iconst 1, 1) := by decide +kernel
theorem dX10_comesTo_140 : decode cX10_comesTo 140 = .ok (.isub, 1) := by decide +kernel
theorem dX10_comesTo_141 : decode cX10_comesTo 141 = .ok (.iaload, 1) := by decide +kernel
theorem dX10_comesTo_142 : decode cX10_comesTo 142 = .ok (.isub, 1) := by decide +kernel
theorem dX10_comesTo_143 : decode cX10_comesTo 143 = .ok (.iastore, 1) := by decide +kernel
theorem dX10_comesTo_144 : decode cX10_comesTo 144 = .ok (.goto 36, 3) := by decide +kernel
theorem dX10_comesTo_147 : decode cX10_comesTo 147 = .ok (.iinc 4 (-1), 3) := by decide +kernel
theorem dX10_comesTo_150 : decode cX10_comesTo 150 = .ok (.aload_n 0, 1) := by decide +kernel
theorem dX10_comesTo_151 : decode cX10_comesTo 151 = .ok (.getfield 40, 3) := by decide +kernel
theorem dX10_comesTo_154 : decode cX10_comesTo 154 = .ok (.iload 4, 2) := by decide +kernel
theorem dX10_comesTo_156 : decode cX10_comesTo 156 = .ok (.iconst 1, 1) := by decide +kernel
theorem dX10_comesTo_157 : decode cX10_comesTo 157 = .ok (.isub, 1) := by decide +kernel
theorem dX10_comesTo_158 : decode cX10_comesTo 158 = .ok (.iload 6, 2) := by decide +kernel
theorem dX10_comesTo_160 : decode cX10_comesTo 160 = .ok (.aload_n 0, 1) := by decide +kernel
theorem dX10_comesTo_161 : decode cX10_comesTo 161 = .ok (.getfield 40, 3) := by decide +kernel
theorem dX10_comesTo_164 : decode cX10_comesTo 164 = .ok (.iload 4, 2) := by decide +kernel
theorem dX10_comesTo_166 : decode cX10_comesTo 166 = .ok (.iconst 1, 1) := by decide +kernel
theorem dX10_comesTo_167 : decode cX10_comesTo 167 = .ok (.isub, 1) := by decide +kernel
theorem dX10_comesTo_168 : decode cX10_comesTo 168 = .ok (.iaload, 1) := by decide +kernel
theorem dX10_comesTo_169 : decode cX10_comesTo 169 = .ok (.aload_n 0, 1) := by decide +kernel
theorem dX10_comesTo_170 : decode cX10_comesTo 170 = .ok (.getfield 40, 3) := by decide +kernel
theorem dX10_comesTo_173 : decode cX10_comesTo 173 = .ok (.iload 4, 2) := by decide +kernel
theorem dX10_comesTo_175 : decode cX10_comesTo 175 = .ok (.iaload, 1) := by decide +kernel
theorem dX10_comesTo_176 : decode cX10_comesTo 176 = .ok (.invokestatic 282, 3) := by decide +kernel
theorem dX10_comesTo_179 : decode cX10_comesTo 179 = .ok (.iastore, 1) := by decide +kernel
theorem dX10_comesTo_180 : decode cX10_comesTo 180 = .ok (.iinc 5 1, 3) := by decide +kernel
theorem dX10_comesTo_183 : decode cX10_comesTo 183 = .ok (.goto (-177), 3) := by decide +kernel
theorem dX10_comesTo_186 : decode cX10_comesTo 186 = .ok (.aload_n 0, 1) := by decide +kernel
theorem dX10_comesTo_187 : decode cX10_comesTo 187 = .ok (.getfield 40, 3) := by decide +kernel
theorem dX10_comesTo_190 : decode cX10_comesTo 190 = .ok (.iconst 0, 1) := by decide +kernel
theorem dX10_comesTo_191 : decode cX10_comesTo 191 = .ok (.iaload, 1) := by decide +kernel
theorem dX10_comesTo_192 : decode cX10_comesTo 192 = .ok (.ireturn, 1) := by decide +kernel
theorem dX10_isSo_0 : decode cX10_isSo 0 = .ok (.aload_n 0, 1) := by decide +kernel
theorem dX10_isSo_1 : decode cX10_isSo 1 = .ok (.getfield 7, 3) := by decide +kernel
theorem dX10_isSo_4 : decode cX10_isSo 4 = .ok (.sipush 1380, 3) := by decide +kernel
theorem dX10_isSo_7 : decode cX10_isSo 7 = .ok (.iload_n 1, 1) := by decide +kernel
theorem dX10_isSo_8 : decode cX10_isSo 8 = .ok (.iadd, 1) := by decide +kernel
theorem dX10_isSo_9 : decode cX10_isSo 9 = .ok (.iaload, 1) := by decide +kernel
theorem dX10_isSo_10 : decode cX10_isSo 10 = .ok (.aload_n 0, 1) := by decide +kernel
theorem dX10_isSo_11 : decode cX10_isSo 11 = .ok (.getfield 7, 3) := by decide +kernel
theorem dX10_isSo_14 : decode cX10_isSo 14 = .ok (.sipush 1364, 3) := by decide +kernel
theorem dX10_isSo_17 : decode cX10_isSo 17 = .ok (.iload_n 1, 1) := by decide +kernel
theorem dX10_isSo_18 : decode cX10_isSo 18 = .ok (.iadd, 1) := by decide +kernel
theorem dX10_isSo_19 : decode cX10_isSo 19 = .ok (.iaload, 1) := by decide +kernel
theorem dX10_isSo_20 : decode cX10_isSo 20 = .ok (.if_icmp .eq 32, 3) := by decide +kernel
theorem dX10_isSo_23 : decode cX10_isSo 23 = .ok (.aload_n 0, 1) := by decide +kernel
theorem dX10_isSo_24 : decode cX10_isSo 24 = .ok (.iconst 0, 1) := by decide +kernel
theorem dX10_isSo_25 : decode cX10_isSo 25 = .ok (.aload_n 0, 1) := by decide +kernel
theorem dX10_isSo_26 : decode cX10_isSo 26 = .ok (.getfield 7, 3) := by decide +kernel
theorem dX10_isSo_29 : decode cX10_isSo 29 = .ok (.sipush 1364, 3) := by decide +kernel
theorem dX10_isSo_32 : decode cX10_isSo 32 = .ok (.iload_n 1, 1) := by decide +kernel
theorem dX10_isSo_33 : decode cX10_isSo 33 = .ok (.iadd, 1) := by decide +kernel
theorem dX10_isSo_34 : decode cX10_isSo 34 = .ok (.iaload, 1) := by decide +kernel
theorem dX10_isSo_35 : decode cX10_isSo 35 = .ok (.aload_n 0, 1) := by decide +kernel
theorem dX10_isSo_36 : decode cX10_isSo 36 = .ok (.getfield 7, 3) := by decide +kernel
theorem dX10_isSo_39 : decode cX10_isSo 39 = .ok (.sipush 1380, 3) := by decide +kernel
theorem dX10_isSo_42 : decode cX10_isSo 42 = .ok (.iload_n 1, 1) := by decide +kernel
theorem dX10_isSo_43 : decode cX10_isSo 43 = .ok (.iadd, 1) := by decide +kernel
theorem dX10_isSo_44 : decode cX10_isSo 44 = .ok (.iaload, 1) := by decide +kernel
theorem dX10_isSo_45 : decode cX10_isSo 45 = .ok (.invokevirtual 285, 3) := by decide +kernel
theorem dX10_isSo_48 : decode cX10_isSo 48 = .ok (.iconst 1, 1) := by decide +kernel
theorem dX10_isSo_49 : decode cX10_isSo 49 = .ok (.if_icmp .ne 7, 3) := by decide +kernel
theorem dX10_isSo_52 : decode cX10_isSo 52 = .ok (.iconst 1, 1) := by decide +kernel
theorem dX10_isSo_53 : decode cX10_isSo 53 = .ok (.goto 4, 3) := by decide +kernel
theorem dX10_isSo_56 : decode cX10_isSo 56 = .ok (.iconst 0, 1) := by decide +kernel
theorem dX10_isSo_57 : decode cX10_isSo 57 = .ok (.ireturn, 1) := by decide +kernel
theorem dX10_knowers_0 : decode cX10_knowers 0 = .ok (.iconst 0, 1) := by decide +kernel
theorem dX10_knowers_1 : decode cX10_knowers 1 = .ok (.istore_n 2, 1) := by decide +kernel
theorem dX10_knowers_2 : decode cX10_knowers 2 = .ok (.iconst 0, 1) := by decide +kernel
theorem dX10_knowers_3 : decode cX10_knowers 3 = .ok (.istore_n 3, 1) := by decide +kernel
theorem dX10_knowers_4 : decode cX10_knowers 4 = .ok (.iload_n 3, 1) := by decide +kernel
theorem dX10_knowers_5 : decode cX10_knowers 5 = .ok (.aload_n 0, 1) := by decide +kernel
theorem dX10_knowers_6 : decode cX10_knowers 6 = .ok (.getfield 7, 3) := by decide +kernel
theorem dX10_knowers_9 : decode cX10_knowers 9 = .ok (.bipush 63, 2) := by decide +kernel
theorem dX10_knowers_11 : decode cX10_knowers 11 = .ok (.iaload, 1) := by decide +kernel
theorem dX10_knowers_12 : decode cX10_knowers 12 = .ok (.if_icmp .ge 28, 3) := by decide +kernel
theorem dX10_knowers_15 : decode cX10_knowers 15 = .ok (.iload_n 2, 1) := by decide +kernel
theorem dX10_knowers_16 : decode cX10_knowers 16 = .ok (.aload_n 0, 1) := by decide +kernel
theorem dX10_knowers_17 : decode cX10_knowers 17 = .ok (.iload_n 3, 1) := by decide +kernel
theorem dX10_knowers_18 : decode cX10_knowers 18 = .ok (.iload_n 1, 1) := by decide +kernel
theorem dX10_knowers_19 : decode cX10_knowers 19 = .ok (.invokevirtual 288, 3) := by decide +kernel
theorem dX10_knowers_22 : decode cX10_knowers 22 = .ok (.ifCond .eq 9, 3) := by decide +kernel
theorem dX10_knowers_25 : decode cX10_knowers 25 = .ok (.iconst 1, 1) := by decide +kernel
theorem dX10_knowers_26 : decode cX10_knowers 26 = .ok (.iload_n 3, 1) := by decide +kernel
theorem dX10_knowers_27 : decode cX10_knowers 27 = .ok (.ishl, 1) := by decide +kernel
theorem dX10_knowers_28 : decode cX10_knowers 28 = .ok (.goto 4, 3) := by decide +kernel
theorem dX10_knowers_31 : decode cX10_knowers 31 = .ok (.iconst 0, 1) := by decide +kernel
theorem dX10_knowers_32 : decode cX10_knowers 32 = .ok (.ior, 1) := by decide +kernel
theorem dX10_knowers_33 : decode cX10_knowers 33 = .ok (.istore_n 2, 1) := by decide +kernel
theorem dX10_knowers_34 : decode cX10_knowers 34 = .ok (.iinc 3 1, 3) := by decide +kernel
theorem dX10_knowers_37 : decode cX10_knowers 37 = .ok (.goto (-33), 3) := by decide +kernel
theorem dX10_knowers_40 : decode cX10_knowers 40 = .ok (.iload_n 2, 1) := by decide +kernel
theorem dX10_knowers_41 : decode cX10_knowers 41 = .ok (.ireturn, 1) := by decide +kernel
theorem dX10_says_0 : decode cX10_says 0 = .ok (.aload_n 0, 1) := by decide +kernel
theorem dX10_says_1 : decode cX10_says 1 = .ok (.getfield 43, 3) := by decide +kernel
theorem dX10_says_4 : decode cX10_says 4 = .ok (.iconst 1, 1) := by decide +kernel
theorem dX10_says_5 : decode cX10_says 5 = .ok (.iload_n 2, 1) := by decide +kernel
theorem dX10_says_6 : decode cX10_says 6 = .ok (.iastore, 1) := by decide +kernel
theorem dX10_says_7 : decode cX10_says 7 = .ok (.aload_n 0, 1) := by decide +kernel
theorem dX10_says_8 : decode cX10_says 8 = .ok (.getfield 43, 3) := by decide +kernel
theorem dX10_says_11 : decode cX10_says 11 = .ok (.iconst 2, 1) := by decide +kernel
theorem dX10_says_12 : decode cX10_says 12 = .ok (.aload_n 0, 1) := by decide +kernel
theorem dX10_says_13 : decode cX10_says 13 = .ok (.getfield 7, 3) := by decide +kernel
theorem dX10_says_16 : decode cX10_says 16 = .ok (.bipush 70, 2) := by decide +kernel
theorem dX10_says_18 : decode cX10_says 18 = .ok (.iload_n 2, 1) := by decide +kernel
theorem dX10_says_19 : decode cX10_says 19 = .ok (.iadd, 1) := by decide +kernel
theorem dX10_says_20 : decode cX10_says 20 = .ok (.iaload, 1) := by decide +kernel
theorem dX10_says_21 : decode cX10_says 21 = .ok (.iastore, 1) := by decide +kernel
theorem dX10_says_22 : decode cX10_says 22 = .ok (.aload_n 0, 1) := by decide +kernel
theorem dX10_says_23 : decode cX10_says 23 = .ok (.getfield 43, 3) := by decide +kernel
theorem dX10_says_26 : decode cX10_says 26 = .ok (.iconst 3, 1) := by decide +kernel
theorem dX10_says_27 : decode cX10_says 27 = .ok (.aload_n 0, 1) := by decide +kernel
theorem dX10_says_28 : decode cX10_says 28 = .ok (.getfield 7, 3) := by decide +kernel
theorem dX10_says_31 : decode cX10_says 31 = .ok (.iconst 4, 1) := by decide +kernel
theorem dX10_says_32 : decode cX10_says 32 = .ok (.iload_n 2, 1) := by decide +kernel
theorem dX10_says_33 : decode cX10_says 33 = .ok (.iadd, 1) := by decide +kernel
theorem dX10_says_34 : decode cX10_says 34 = .ok (.iaload, 1) := by decide +kernel
theorem dX10_says_35 : decode cX10_says 35 = .ok (.iastore, 1) := by decide +kernel
theorem dX10_says_36 : decode cX10_says 36 = .ok (.aload_n 0, 1) := by decide +kernel
theorem dX10_says_37 : decode cX10_says 37 = .ok (.getfield 43, 3) := by decide +kernel
theorem dX10_says_40 : decode cX10_says 40 = .ok (.iconst 4, 1) := by decide +kernel
theorem dX10_says_41 : decode cX10_says 41 = .ok (.aload_n 0, 1) := by decide +kernel
theorem dX10_says_42 : decode cX10_says 42 = .ok (.getfield 7, 3) := by decide +kernel
theorem dX10_says_45 : decode cX10_says 45 = .ok (.bipush 18, 2) := by decide +kernel
theorem dX10_says_47 : decode cX10_says 47 = .ok (.iload_n 2, 1) := by decide +kernel
theorem dX10_says_48 : decode cX10_says 48 = .ok (.iadd, 1) := by decide +kernel
theorem dX10_says_49 : decode cX10_says 49 = .ok (.iaload, 1) := by decide +kernel
theorem dX10_says_50 : decode cX10_says 50 = .ok (.iastore, 1) := by decide +kernel
theorem dX10_says_51 : decode cX10_says 51 = .ok (.aload_n 0, 1) := by decide +kernel
theorem dX10_says_52 : decode cX10_says 52 = .ok (.getfield 43, 3) := by decide +kernel
theorem dX10_says_55 : decode cX10_says 55 = .ok (.iconst 5, 1) := by decide +kernel
theorem dX10_says_56 : decode cX10_says 56 = .ok (.aload_n 0, 1) := by decide +kernel
theorem dX10_says_57 : decode cX10_says 57 = .ok (.getfield 7, 3) := by decide +kernel
theorem dX10_says_60 : decode cX10_says 60 = .ok (.bipush 84, 2) := by decide +kernel
theorem dX10_says_62 : decode cX10_says 62 = .ok (.iload_n 2, 1) := by decide +kernel
theorem dX10_says_63 : decode cX10_says 63 = .ok (.iadd, 1) := by decide +kernel
theorem dX10_says_64 : decode cX10_says 64 = .ok (.iaload, 1) := by decide +kernel
theorem dX10_says_65 : decode cX10_says 65 = .ok (.aload_n 0, 1) := by decide +kernel
theorem dX10_says_66 : decode cX10_says 66 = .ok (.getfield 7, 3) := by decide +kernel
theorem dX10_says_69 : decode cX10_says 69 = .ok (.iconst 3, 1) := by decide +kernel
theorem dX10_says_70 : decode cX10_says 70 = .ok (.iaload, 1) := by decide +kernel
theorem dX10_says_71 : decode cX10_says 71 = .ok (.iconst (-1), 1) := by decide +kernel
theorem dX10_says_72 : decode cX10_says 72 = .ok (.ixor, 1) := by decide +kernel
theorem dX10_says_73 : decode cX10_says 73 = .ok (.iand, 1) := by decide +kernel
theorem dX10_says_74 : decode cX10_says 74 = .ok (.invokestatic 291, 3) := by decide +kernel
theorem dX10_says_77 : decode cX10_says 77 = .ok (.iastore, 1) := by decide +kernel
theorem dX10_says_78 : decode cX10_says 78 = .ok (.aload_n 0, 1) := by decide +kernel
theorem dX10_says_79 : decode cX10_says 79 = .ok (.getfield 43, 3) := by decide +kernel
theorem dX10_says_82 : decode cX10_says 82 = .ok (.bipush 6, 2) := by decide +kernel
theorem dX10_says_84 : decode cX10_says 84 = .ok (.aload_n 0, 1) := by decide +kernel
theorem dX10_says_85 : decode cX10_says 85 = .ok (.iload_n 2, 1) := by decide +kernel
theorem dX10_says_86 : decode cX10_says 86 = .ok (.invokevirtual 294, 3) := by decide +kernel
theorem dX10_says_89 : decode cX10_says 89 = .ok (.invokestatic 291, 3) := by decide +kernel
theorem dX10_says_92 : decode cX10_says 92 = .ok (.iastore, 1) := by decide +kernel
theorem dX10_says_93 : decode cX10_says 93 = .ok (.aload_n 0, 1) := by decide +kernel
theorem dX10_says_94 : decode cX10_says 94 = .ok (.getfield 43, 3) := by decide +kernel
theorem dX10_says_97 : decode cX10_says 97 = .ok (.bipush 7, 2) := by decide +kernel
theorem dX10_says_99 : decode cX10_says 99 = .ok (.iload_n 3, 1) := by decide +kernel
theorem dX10_says_100 : decode cX10_says 100 = .ok (.iastore, 1) := by decide +kernel
theorem dX10_says_101 : decode cX10_says 101 = .ok (.aload_n 0, 1) := by decide +kernel
theorem dX10_says_102 : decode cX10_says 102 = .ok (.getfield 43, 3) := by decide +kernel
theorem dX10_says_105 : decode cX10_says 105 = .ok (.bipush 8, 2) := by decide +kernel
theorem dX10_says_107 : decode cX10_says 107 = .ok (.aload_n 0, 1) := by decide +kernel
theorem dX10_says_108 : decode cX10_says 108 = .ok (.getfield 7, 3) := by decide +kernel
theorem dX10_says_111 : decode cX10_says 111 = .ok (.iconst 0, 1) := by decide +kernel
theorem dX10_says_112 : decode cX10_says 112 = .ok (.iaload, 1) := by decide +kernel
theorem dX10_says_113 : decode cX10_says 113 = .ok (.iastore, 1) := by decide +kernel
theorem dX10_says_114 : decode cX10_says 114 = .ok (.iconst 0, 1) := by decide +kernel
theorem dX10_says_115 : decode cX10_says 115 = .ok (.istore 7, 2) := by decide +kernel
theorem dX10_says_117 : decode cX10_says 117 = .ok (.iload 7, 2) := by decide +kernel
theorem dX10_says_119 : decode cX10_says 119 = .ok (.aload_n 0, 1) := by decide +kernel
theorem dX10_says_120 : decode cX10_says 120 = .ok (.getfield 7, 3) := by decide +kernel
theorem dX10_says_123 : decode cX10_says 123 = .ok (.bipush 65, 2) := by decide +kernel
theorem dX10_says_125 : decode cX10_says 125 = .ok (.iaload, 1) := by decide +kernel
theorem dX10_says_126 : decode cX10_says 126 = .ok (.if_icmp .ge 71, 3) := by decide +kernel
theorem dX10_says_129 : decode cX10_says 129 = .ok (.aload_n 0, 1) := by decide +kernel
theorem dX10_says_130 : decode cX10_says 130 = .ok (.getfield 7, 3) := by decide +kernel
theorem dX10_says_133 : decode cX10_says 133 = .ok (.sipush 1396, 3) := by decide +kernel
theorem dX10_says_136 : decode cX10_says 136 = .ok (.iload 7, 2) := by decide +kernel
theorem dX10_says_138 : decode cX10_says 138 = .ok (.iadd, 1) := by decide +kernel
theorem dX10_says_139 : decode cX10_says 139 = .ok (.iaload, 1) := by decide +kernel
theorem dX10_says_140 : decode cX10_says 140 = .ok (.iload_n 1, 1) := by decide +kernel
theorem dX10_says_141 : decode cX10_says 141 = .ok (.if_icmp .ne 50, 3) := by decide +kernel
theorem dX10_says_144 : decode cX10_says 144 = .ok (.aload_n 0, 1) := by decide +kernel
theorem dX10_says_145 : decode cX10_says 145 = .ok (.iload 7, 2) := by decide +kernel
theorem dX10_says_147 : decode cX10_says 147 = .ok (.invokevirtual 297, 3) := by decide +kernel
theorem dX10_says_150 : decode cX10_says 150 = .ok (.ifCond .eq 41, 3) := by decide +kernel
theorem dX10_says_153 : decode cX10_says 153 = .ok (.iload 5, 2) := by decide +kernel
theorem dX10_says_155 : decode cX10_says 155 = .ok (.iload 6, 2) := by decide +kernel
theorem dX10_says_157 : decode cX10_says 157 = .ok (.aload_n 0, 1) := by decide +kernel
theorem dX10_says_158 : decode cX10_says 158 = .ok (.iconst 0, 1) := by decide +kernel
theorem dX10_says_159 : decode cX10_says 159 = .ok (.aload_n 0, 1) := by decide +kernel
theorem dX10_says_160 : decode cX10_says 160 = .ok (.getfield 7, 3) := by decide +kernel
theorem dX10_says_163 : decode cX10_says 163 = .ok (.sipush 1348, 3) := by decide +kernel
theorem dX10_says_166 : decode cX10_says 166 = .ok (.iload 7, 2) := by decide +kernel
theorem dX10_says_168 : decode cX10_says 168 = .ok (.iadd, 1) := by decide +kernel
theorem dX10_says_169 : decode cX10_says 169 = .ok (.iaload, 1) := by decide +kernel
theorem dX10_says_170 : decode cX10_says 170 = .ok (.aload_n 0, 1) := by decide +kernel
theorem dX10_says_171 : decode cX10_says 171 = .ok (.getfield 7, 3) := by decide +kernel
theorem dX10_says_174 : decode cX10_says 174 = .ok (.sipush 1364, 3) := by decide +kernel
theorem dX10_says_177 : decode cX10_says 177 = .ok (.iload 7, 2) := by decide +kernel
theorem dX10_says_179 : decode cX10_says 179 = .ok (.iadd, 1) := by decide +kernel
theorem dX10_says_180 : decode cX10_says 180 = .ok (.iaload, 1) := by decide +kernel
theorem dX10_says_181 : decode cX10_says 181 = .ok (.invokevirtual 285, 3) := by decide +kernel
theorem dX10_says_184 : decode cX10_says 184 = .ok (.invokestatic 300, 3) := by decide +kernel
theorem dX10_says_187 : decode cX10_says 187 = .ok (.invokestatic 304, 3) := by decide +kernel
theorem dX10_says_190 : decode cX10_says 190 = .ok (.ireturn, 1) := by decide +kernel
theorem dX10_says_191 : decode cX10_says 191 = .ok (.iinc 7 1, 3) := by decide +kernel
theorem dX10_says_194 : decode cX10_says 194 = .ok (.goto (-77), 3) := by decide +kernel
theorem dX10_says_197 : decode cX10_says 197 = .ok (.iload 4, 2) := by decide +kernel
theorem dX10_says_199 : decode cX10_says 199 = .ok (.ireturn, 1) := by decide +kernel
theorem dX10_keepOf_0 : decode cX10_keepOf 0 = .ok (.aload_n 0, 1) := by decide +kernel
theorem dX10_keepOf_1 : decode cX10_keepOf 1 = .ok (.bipush 20, 2) := by decide +kernel
theorem dX10_keepOf_3 : decode cX10_keepOf 3 = .ok (.iload_n 1, 1) := by decide +kernel
theorem dX10_keepOf_4 : decode cX10_keepOf 4 = .ok (.iconst 0, 1) := by decide +kernel
theorem dX10_keepOf_5 : decode cX10_keepOf 5 = .ok (.sipush 365, 3) := by decide +kernel
theorem dX10_keepOf_8 : decode cX10_keepOf 8 = .ok (.iconst 1, 1) := by decide +kernel
theorem dX10_keepOf_9 : decode cX10_keepOf 9 = .ok (.sipush 9999, 3) := by decide +kernel
theorem dX10_keepOf_12 : decode cX10_keepOf 12 = .ok (.invokevirtual 307, 3) := by decide +kernel
theorem dX10_keepOf_15 : decode cX10_keepOf 15 = .ok (.ireturn, 1) := by decide +kernel
theorem dX10_hearOf_0 : decode cX10_hearOf 0 = .ok (.aload_n 0, 1) := by decide +kernel
theorem dX10_hearOf_1 : decode cX10_hearOf 1 = .ok (.bipush 21, 2) := by decide +kernel
theorem dX10_hearOf_3 : decode cX10_hearOf 3 = .ok (.iload_n 1, 1) := by decide +kernel
theorem dX10_hearOf_4 : decode cX10_hearOf 4 = .ok (.iload_n 2, 1) := by decide +kernel
theorem dX10_hearOf_5 : decode cX10_hearOf 5 = .ok (.iconst 2, 1) := by decide +kernel
theorem dX10_hearOf_6 : decode cX10_hearOf 6 = .ok (.iconst 0, 1) := by decide +kernel
theorem dX10_hearOf_7 : decode cX10_hearOf 7 = .ok (.bipush 9, 2) := by decide +kernel
theorem dX10_hearOf_9 : decode cX10_hearOf 9 = .ok (.invokevirtual 307, 3) := by decide +kernel
theorem dX10_hearOf_12 : decode cX10_hearOf 12 = .ok (.ireturn, 1) := by decide +kernel
theorem dX10_tireOf_0 : decode cX10_tireOf 0 = .ok (.aload_n 0, 1) := by decide +kernel
theorem dX10_tireOf_1 : decode cX10_tireOf 1 = .ok (.bipush 22, 2) := by decide +kernel
theorem dX10_tireOf_3 : decode cX10_tireOf 3 = .ok (.iload_n 1, 1) := by decide +kernel
theorem dX10_tireOf_4 : decode cX10_tireOf 4 = .ok (.iload_n 2, 1) := by decide +kernel
theorem dX10_tireOf_5 : decode cX10_tireOf 5 = .ok (.aload_n 0, 1) := by decide +kernel
theorem dX10_tireOf_6 : decode cX10_tireOf 6 = .ok (.getfield 7, 3) := by decide +kernel
theorem dX10_tireOf_9 : decode cX10_tireOf 9 = .ok (.bipush 70, 2) := by decide +kernel
theorem dX10_tireOf_11 : decode cX10_tireOf 11 = .ok (.iload_n 1, 1) := by decide +kernel
theorem dX10_tireOf_12 : decode cX10_tireOf 12 = .ok (.iadd, 1) := by decide +kernel
theorem dX10_tireOf_13 : decode cX10_tireOf 13 = .ok (.iaload, 1) := by decide +kernel
theorem dX10_tireOf_14 : decode cX10_tireOf 14 = .ok (.iconst 0, 1) := by decide +kernel
theorem dX10_tireOf_15 : decode cX10_tireOf 15 = .ok (.bipush 99, 2) := by decide +kernel
theorem dX10_tireOf_17 : decode cX10_tireOf 17 = .ok (.invokevirtual 307, 3) := by decide +kernel
theorem dX10_tireOf_20 : decode cX10_tireOf 20 = .ok (.ireturn, 1) := by decide +kernel
theorem dX10_keeps_0 : decode cX10_keeps 0 = .ok (.aload_n 0, 1) := by decide +kernel
theorem dX10_keeps_1 : decode cX10_keeps 1 = .ok (.getfield 63, 3) := by decide +kernel
theorem dX10_keeps_4 : decode cX10_keeps 4 = .ok (.bipush 6, 2) := by decide +kernel
theorem dX10_keeps_6 : decode cX10_keeps 6 = .ok (.if_icmp .ne 43, 3) := by decide +kernel
theorem dX10_keeps_9 : decode cX10_keeps 9 = .ok (.iconst 0, 1) := by decide +kernel
theorem dX10_keeps_10 : decode cX10_keeps 10 = .ok (.istore_n 1, 1) := by decide +kernel
theorem dX10_keeps_11 : decode cX10_keeps 11 = .ok (.iload_n 1, 1) := by decide +kernel
theorem dX10_keeps_12 : decode cX10_keeps 12 = .ok (.sipush 310, 3) := by decide +kernel
theorem dX10_keeps_15 : decode cX10_keeps 15 = .ok (.if_icmp .ge 24, 3) := by decide +kernel
theorem dX10_keeps_18 : decode cX10_keeps 18 = .ok (.aload_n 0, 1) := by decide +kernel
theorem dX10_keeps_19 : decode cX10_keeps 19 = .ok (.getfield 16, 3) := by decide +kernel
theorem dX10_keeps_22 : decode cX10_keeps 22 = .ok (.iload_n 1, 1) := by decide +kernel
theorem dX10_keeps_23 : decode cX10_keeps 23 = .ok (.aload_n 0, 1) := by decide +kernel
theorem dX10_keeps_24 : decode cX10_keeps 24 = .ok (.getfield 16, 3) := by decide +kernel
theorem dX10_keeps_27 : decode cX10_keeps 27 = .ok (.iload_n 1, 1) := by decide +kernel
theorem dX10_keeps_28 : decode cX10_keeps 28 = .ok (.bipush 62, 2) := by decide +kernel
theorem dX10_keeps_30 : decode cX10_keeps 30 = .ok (.iadd, 1) := by decide +kernel
theorem dX10_keeps_31 : decode cX10_keeps 31 = .ok (.iaload, 1) := by decide +kernel
theorem dX10_keeps_32 : decode cX10_keeps 32 = .ok (.iastore, 1) := by decide +kernel
theorem dX10_keeps_33 : decode cX10_keeps 33 = .ok (.iinc 1 1, 3) := by decide +kernel
theorem dX10_keeps_36 : decode cX10_keeps 36 = .ok (.goto (-25), 3) := by decide +kernel
theorem dX10_keeps_39 : decode cX10_keeps 39 = .ok (.aload_n 0, 1) := by decide +kernel
theorem dX10_keeps_40 : decode cX10_keeps 40 = .ok (.dup, 1) := by decide +kernel
theorem dX10_keeps_41 : decode cX10_keeps 41 = .ok (.getfield 63, 3) := by decide +kernel
theorem dX10_keeps_44 : decode cX10_keeps 44 = .ok (.iconst 1, 1) := by decide +kernel
theorem dX10_keeps_45 : decode cX10_keeps 45 = .ok (.isub, 1) := by decide +kernel
theorem dX10_keeps_46 : decode cX10_keeps 46 = .ok (.putfield 63, 3) := by decide +kernel
theorem dX10_keeps_49 : decode cX10_keeps 49 = .ok (.iconst 0, 1) := by decide +kernel
theorem dX10_keeps_50 : decode cX10_keeps 50 = .ok (.istore_n 1, 1) := by decide +kernel
theorem dX10_keeps_51 : decode cX10_keeps 51 = .ok (.iload_n 1, 1) := by decide +kernel
theorem dX10_keeps_52 : decode cX10_keeps 52 = .ok (.bipush 62, 2) := by decide +kernel
theorem dX10_keeps_54 : decode cX10_keeps 54 = .ok (.if_icmp .ge 29, 3) := by decide +kernel
theorem dX10_keeps_57 : decode cX10_keeps 57 = .ok (.aload_n 0, 1) := by decide +kernel
theorem dX10_keeps_58 : decode cX10_keeps 58 = .ok (.getfield 16, 3) := by decide +kernel
theorem dX10_keeps_61 : decode cX10_keeps 61 = .ok (.bipush 62, 2) := by decide +kernel
theorem dX10_keeps_63 : decode cX10_keeps 63 = .ok (.aload_n 0, 1) := by decide +kernel
theorem dX10_keeps_64 : decode cX10_keeps 64 = .ok (.getfield 63, 3) := by decide +kernel
theorem dX10_keeps_67 : decode cX10_keeps 67 = .ok (.imul, 1) := by decide +kernel
theorem dX10_keeps_68 : decode cX10_keeps 68 = .ok (.iload_n 1, 1) := by decide +kernel
theorem dX10_keeps_69 : decode cX10_keeps 69 = .ok (.iadd, 1) := by decide +kernel
theorem dX10_keeps_70 : decode cX10_keeps 70 = .ok (.aload_n 0, 1) := by decide +kernel
theorem dX10_keeps_71 : decode cX10_keeps 71 = .ok (.getfield 7, 3) := by decide +kernel
theorem dX10_keeps_74 : decode cX10_keeps 74 = .ok (.iload_n 1, 1) := by decide +kernel
theorem dX10_keeps_75 : decode cX10_keeps 75 = .ok (.iaload, 1) := by decide +kernel
theorem dX10_keeps_76 : decode cX10_keeps 76 = .ok (.iastore, 1) := by decide +kernel
theorem dX10_keeps_77 : decode cX10_keeps 77 = .ok (.iinc 1 1, 3) := by decide +kernel
theorem dX10_keeps_80 : decode cX10_keeps 80 = .ok (.goto (-29), 3) := by decide +kernel
theorem dX10_keeps_83 : decode cX10_keeps 83 = .ok (.aload_n 0, 1) := by decide +kernel
theorem dX10_keeps_84 : decode cX10_keeps 84 = .ok (.dup, 1) := by decide +kernel
theorem dX10_keeps_85 : decode cX10_keeps 85 = .ok (.getfield 63, 3) := by decide +kernel
theorem dX10_keeps_88 : decode cX10_keeps 88 = .ok (.iconst 1, 1) := by decide +kernel
theorem dX10_keeps_89 : decode cX10_keeps 89 = .ok (.iadd, 1) := by decide +kernel
theorem dX10_keeps_90 : decode cX10_keeps 90 = .ok (.putfield 63, 3) := by decide +kernel
theorem dX10_keeps_93 : decode cX10_keeps 93 = .ok (.aload_n 0, 1) := by decide +kernel
theorem dX10_keeps_94 : decode cX10_keeps 94 = .ok (.iconst 1, 1) := by decide +kernel
theorem dX10_keeps_95 : decode cX10_keeps 95 = .ok (.putfield 310, 3) := by decide +kernel
theorem dX10_keeps_98 : decode cX10_keeps 98 = .ok (.return_, 1) := by decide +kernel
theorem dX10_undo_0 : decode cX10_undo 0 = .ok (.aload_n 0, 1) := by decide +kernel
theorem dX10_undo_1 : decode cX10_undo 1 = .ok (.getfield 63, 3) := by decide +kernel
theorem dX10_undo_4 : decode cX10_undo 4 = .ok (.ifCond .ne 5, 3) := by decide +kernel
theorem dX10_undo_7 : decode cX10_undo 7 = .ok (.iconst 0, 1) := by decide +kernel
theorem dX10_undo_8 : decode cX10_undo 8 = .ok (.ireturn, 1) := by decide +kernel
theorem dX10_undo_9 : decode cX10_undo 9 = .ok (.aload_n 0, 1) := by decide +kernel
theorem dX10_undo_10 : decode cX10_undo 10 = .ok (.dup, 1) := by decide +kernel
theorem dX10_undo_11 : decode cX10_undo 11 = .ok (.getfield 63, 3) := by decide +kernel
theorem dX10_undo_14 : decode cX10_undo 14 = .ok (.iconst 1, 1) := by decide +kernel
theorem dX10_undo_15 : decode cX10_undo 15 = .ok (.isub, 1) := by decide +kernel
theorem dX10_undo_16 : decode cX10_undo 16 = .ok (.putfield 63, 3) := by decide +kernel
theorem dX10_undo_19 : decode cX10_undo 19 = .ok (.iconst 0, 1) := by decide +kernel
theorem dX10_undo_20 : decode cX10_undo 20 = .ok (.istore_n 1, 1) := by decide +kernel
theorem dX10_undo_21 : decode cX10_undo 21 = .ok (.iload_n 1, 1) := by decide +kernel
theorem dX10_undo_22 : decode cX10_undo 22 = .ok (.bipush 62, 2) := by decide +kernel
theorem dX10_undo_24 : decode cX10_undo 24 = .ok (.if_icmp .ge 29, 3) := by decide +kernel
theorem dX10_undo_27 : decode cX10_undo 27 = .ok (.aload_n 0, 1) := by decide +kernel
theorem dX10_undo_28 : decode cX10_undo 28 = .ok (.getfield 7, 3) := by decide +kernel
theorem dX10_undo_31 : decode cX10_undo 31 = .ok (.iload_n 1, 1) := by decide +kernel
theorem dX10_undo_32 : decode cX10_undo 32 = .ok (.aload_n 0, 1) := by decide +kernel
theorem dX10_undo_33 : decode cX10_undo 33 = .ok (.getfield 16, 3) := by decide +kernel
theorem dX10_undo_36 : decode cX10_undo 36 = .ok (.bipush 62, 2) := by decide +kernel
theorem dX10_undo_38 : decode cX10_undo 38 = .ok (.aload_n 0, 1) := by decide +kernel
theorem dX10_undo_39 : decode cX10_undo 39 = .ok (.getfield 63, 3) := by decide +kernel
theorem dX10_undo_42 : decode cX10_undo 42 = .ok (.imul, 1) := by decide +kernel
theorem dX10_undo_43 : decode cX10_undo 43 = .ok (.iload_n 1, 1) := by decide +kernel
theorem dX10_undo_44 : decode cX10_undo 44 = .ok (.iadd, 1) := by decide +kernel
theorem dX10_undo_45 : decode cX10_undo 45 = .ok (.iaload, 1) := by decide +kernel
theorem dX10_undo_46 : decode cX10_undo 46 = .ok (.iastore, 1) := by decide +kernel
theorem dX10_undo_47 : decode cX10_undo 47 = .ok (.iinc 1 1, 3) := by decide +kernel
theorem dX10_undo_50 : decode cX10_undo 50 = .ok (.goto (-29), 3) := by decide +kernel
theorem dX10_undo_53 : decode cX10_undo 53 = .ok (.iconst 1, 1) := by decide +kernel
theorem dX10_undo_54 : decode cX10_undo 54 = .ok (.ireturn, 1) := by decide +kernel
theorem dX10_notes_0 : decode cX10_notes 0 = .ok (.aload_n 0, 1) := by decide +kernel
theorem dX10_notes_1 : decode cX10_notes 1 = .ok (.getfield 310, 3) := by decide +kernel
theorem dX10_notes_4 : decode cX10_notes 4 = .ok (.ifCond .eq 15, 3) := by decide +kernel
theorem dX10_notes_7 : decode cX10_notes 7 = .ok (.aload_n 0, 1) := by decide +kernel
theorem dX10_notes_8 : decode cX10_notes 8 = .ok (.getfield 7, 3) := by decide +kernel
theorem dX10_notes_11 : decode cX10_notes 11 = .ok (.iconst 2, 1) := by decide +kernel
theorem dX10_notes_12 : decode cX10_notes 12 = .ok (.iaload, 1) := by decide +kernel
theorem dX10_notes_13 : decode cX10_notes 13 = .ok (.sipush 150, 3) := by decide +kernel
theorem dX10_notes_16 : decode cX10_notes 16 = .ok (.if_icmp .ne 4, 3) := by decide +kernel
theorem dX10_notes_19 : decode cX10_notes 19 = .ok (.return_, 1) := by decide +kernel
theorem dX10_notes_20 : decode cX10_notes 20 = .ok (.sipush 748, 3) := by decide +kernel
theorem dX10_notes_23 : decode cX10_notes 23 = .ok (.iconst 4, 1) := by decide +kernel
theorem dX10_notes_24 : decode cX10_notes 24 = .ok (.aload_n 0, 1) := by decide +kernel
theorem dX10_notes_25 : decode cX10_notes 25 = .ok (.getfield 7, 3) := by decide +kernel
theorem dX10_notes_28 : decode cX10_notes 28 = .ok (.iconst 2, 1) := by decide +kernel
theorem dX10_notes_29 : decode cX10_notes 29 = .ok (.iaload, 1) := by decide +kernel
theorem dX10_notes_30 : decode cX10_notes 30 = .ok (.imul, 1) := by decide +kernel
theorem dX10_notes_31 : decode cX10_notes 31 = .ok (.iadd, 1) := by decide +kernel
theorem dX10_notes_32 : decode cX10_notes 32 = .ok (.istore 4, 2) := by decide +kernel
theorem dX10_notes_34 : decode cX10_notes 34 = .ok (.aload_n 0, 1) := by decide +kernel
theorem dX10_notes_35 : decode cX10_notes 35 = .ok (.getfield 7, 3) := by decide +kernel
theorem dX10_notes_38 : decode cX10_notes 38 = .ok (.iload 4, 2) := by decide +kernel
theorem dX10_notes_40 : decode cX10_notes 40 = .ok (.aload_n 0, 1) := by decide +kernel
theorem dX10_notes_41 : decode cX10_notes 41 = .ok (.getfield 7, 3) := by decide +kernel
theorem dX10_notes_44 : decode cX10_notes 44 = .ok (.iconst 0, 1) := by decide +kernel
theorem dX10_notes_45 : decode cX10_notes 45 = .ok (.iaload, 1) := by decide +kernel
theorem dX10_notes_46 : decode cX10_notes 46 = .ok (.iastore, 1) := by decide +kernel
theorem dX10_notes_47 : decode cX10_notes 47 = .ok (.aload_n 0, 1) := by decide +kernel
theorem dX10_notes_48 : decode cX10_notes 48 = .ok (.getfield 7, 3) := by decide +kernel
theorem dX10_notes_51 : decode cX10_notes 51 = .ok (.iload 4, 2) := by decide +kernel
theorem dX10_notes_53 : decode cX10_notes 53 = .ok (.iconst 1, 1) := by decide +kernel
theorem dX10_notes_54 : decode cX10_notes 54 = .ok (.iadd, 1) := by decide +kernel
theorem dX10_notes_55 : decode cX10_notes 55 = .ok (.iload_n 1, 1) := by decide +kernel
theorem dX10_notes_56 : decode cX10_notes 56 = .ok (.iastore, 1) := by decide +kernel
theorem dX10_notes_57 : decode cX10_notes 57 = .ok (.aload_n 0, 1) := by decide +kernel
theorem dX10_notes_58 : decode cX10_notes 58 = .ok (.getfield 7, 3) := by decide +kernel
theorem dX10_notes_61 : decode cX10_notes 61 = .ok (.iload 4, 2) := by decide +kernel
theorem dX10_notes_63 : decode cX10_notes 63 = .ok (.iconst 2, 1) := by decide +kernel
theorem dX10_notes_64 : decode cX10_notes 64 = .ok (.iadd, 1) := by decide +kernel
theorem dX10_notes_65 : decode cX10_notes 65 = .ok (.iload_n 2, 1) := by decide +kernel
theorem dX10_notes_66 : decode cX10_notes 66 = .ok (.iastore, 1) := by decide +kernel
theorem dX10_notes_67 : decode cX10_notes 67 = .ok (.aload_n 0, 1) := by decide +kernel
theorem dX10_notes_68 : decode cX10_notes 68 = .ok (.getfield 7, 3) := by decide +kernel
theorem dX10_notes_71 : decode cX10_notes 71 = .ok (.iload 4, 2) := by decide +kernel
theorem dX10_notes_73 : decode cX10_notes 73 = .ok (.iconst 3, 1) := by decide +kernel
theorem dX10_notes_74 : decode cX10_notes 74 = .ok (.iadd, 1) := by decide +kernel
theorem dX10_notes_75 : decode cX10_notes 75 = .ok (.iload_n 3, 1) := by decide +kernel
theorem dX10_notes_76 : decode cX10_notes 76 = .ok (.iastore, 1) := by decide +kernel
theorem dX10_notes_77 : decode cX10_notes 77 = .ok (.aload_n 0, 1) := by decide +kernel
theorem dX10_notes_78 : decode cX10_notes 78 = .ok (.getfield 7, 3) := by decide +kernel
theorem dX10_notes_81 : decode cX10_notes 81 = .ok (.iconst 2, 1) := by decide +kernel
theorem dX10_notes_82 : decode cX10_notes 82 = .ok (.dup2, 1) := by decide +kernel
theorem dX10_notes_83 : decode cX10_notes 83 = .ok (.iaload, 1) := by decide +kernel
theorem dX10_notes_84 : decode cX10_notes 84 = .ok (.iconst 1, 1) := by decide +kernel
theorem dX10_notes_85 : decode cX10_notes 85 = .ok (.iadd, 1) := by decide +kernel
theorem dX10_notes_86 : decode cX10_notes 86 = .ok (.iastore, 1) := by decide +kernel
theorem dX10_notes_87 : decode cX10_notes 87 = .ok (.return_, 1) := by decide +kernel
theorem dX10_canSay_0 : decode cX10_canSay 0 = .ok (.aload_n 0, 1) := by decide +kernel
theorem dX10_canSay_1 : decode cX10_canSay 1 = .ok (.iload_n 1, 1) := by decide +kernel
theorem dX10_canSay_2 : decode cX10_canSay 2 = .ok (.iload_n 2, 1) := by decide +kernel
theorem dX10_canSay_3 : decode cX10_canSay 3 = .ok (.invokevirtual 288, 3) := by decide +kernel
theorem dX10_canSay_6 : decode cX10_canSay 6 = .ok (.ifCond .eq 41, 3) := by decide +kernel
theorem dX10_canSay_9 : decode cX10_canSay 9 = .ok (.aload_n 0, 1) := by decide +kernel
theorem dX10_canSay_10 : decode cX10_canSay 10 = .ok (.iload_n 2, 1) := by decide +kernel
theorem dX10_canSay_11 : decode cX10_canSay 11 = .ok (.invokevirtual 314, 3) := by decide +kernel
theorem dX10_canSay_14 : decode cX10_canSay 14 = .ok (.ifCond .ne 33, 3) := by decide +kernel
theorem dX10_canSay_17 : decode cX10_canSay 17 = .ok (.aload_n 0, 1) := by decide +kernel
theorem dX10_canSay_18 : decode cX10_canSay 18 = .ok (.getfield 7, 3) := by decide +kernel
theorem dX10_canSay_21 : decode cX10_canSay 21 = .ok (.bipush 52, 2) := by decide +kernel
theorem dX10_canSay_23 : decode cX10_canSay 23 = .ok (.iload_n 1, 1) := by decide +kernel
theorem dX10_canSay_24 : decode cX10_canSay 24 = .ok (.iadd, 1) := by decide +kernel
theorem dX10_canSay_25 : decode cX10_canSay 25 = .ok (.iaload, 1) := by decide +kernel
theorem dX10_canSay_26 : decode cX10_canSay 26 = .ok (.aload_n 0, 1) := by decide +kernel
theorem dX10_canSay_27 : decode cX10_canSay 27 = .ok (.iload_n 2, 1) := by decide +kernel
theorem dX10_canSay_28 : decode cX10_canSay 28 = .ok (.aload_n 0, 1) := by decide +kernel
theorem dX10_canSay_29 : decode cX10_canSay 29 = .ok (.getfield 7, 3) := by decide +kernel
theorem dX10_canSay_32 : decode cX10_canSay 32 = .ok (.bipush 32, 2) := by decide +kernel
theorem dX10_canSay_34 : decode cX10_canSay 34 = .ok (.iload_n 1, 1) := by decide +kernel
theorem dX10_canSay_35 : decode cX10_canSay 35 = .ok (.iadd, 1) := by decide +kernel
theorem dX10_canSay_36 : decode cX10_canSay 36 = .ok (.iaload, 1) := by decide +kernel
theorem dX10_canSay_37 : decode cX10_canSay 37 = .ok (.invokevirtual 317, 3) := by decide +kernel
theorem dX10_canSay_40 : decode cX10_canSay 40 = .ok (.if_icmp .lt 7, 3) := by decide +kernel
theorem dX10_canSay_43 : decode cX10_canSay 43 = .ok (.iconst 1, 1) := by decide +kernel
theorem dX10_canSay_44 : decode cX10_canSay 44 = .ok (.goto 4, 3) := by decide +kernel
theorem dX10_canSay_47 : decode cX10_canSay 47 = .ok (.iconst 0, 1) := by decide +kernel
theorem dX10_canSay_48 : decode cX10_canSay 48 = .ok (.ireturn, 1) := by decide +kernel
theorem dX10_isHeard_0 : decode cX10_isHeard 0 = .ok (.aload_n 0, 1) := by decide +kernel
theorem dX10_isHeard_1 : decode cX10_isHeard 1 = .ok (.getfield 7, 3) := by decide +kernel
theorem dX10_isHeard_4 : decode cX10_isHeard 4 = .ok (.iconst 4, 1) := by decide +kernel
theorem dX10_isHeard_5 : decode cX10_isHeard 5 = .ok (.iload_n 2, 1) := by decide +kernel
theorem dX10_isHeard_6 : decode cX10_isHeard 6 = .ok (.iadd, 1) := by decide +kernel
theorem dX10_isHeard_7 : decode cX10_isHeard 7 = .ok (.iconst 0, 1) := by decide +kernel
theorem dX10_isHeard_8 : decode cX10_isHeard 8 = .ok (.iastore, 1) := by decide +kernel
theorem dX10_isHeard_9 : decode cX10_isHeard 9 = .ok (.aload_n 0, 1) := by decide +kernel
theorem dX10_isHeard_10 : decode cX10_isHeard 10 = .ok (.getfield 7, 3) := by decide +kernel
theorem dX10_isHeard_13 : decode cX10_isHeard 13 = .ok (.bipush 18, 2) := by decide +kernel
theorem dX10_isHeard_15 : decode cX10_isHeard 15 = .ok (.iload_n 2, 1) := by decide +kernel
theorem dX10_isHeard_16 : decode cX10_isHeard 16 = .ok (.iadd, 1) := by decide +kernel
theorem dX10_isHeard_17 : decode cX10_isHeard 17 = .ok (.dup2, 1) := by decide +kernel
theorem dX10_isHeard_18 : decode cX10_isHeard 18 = .ok (.iaload, 1) := by decide +kernel
theorem dX10_isHeard_19 : decode cX10_isHeard 19 = .ok (.iconst 1, 1) := by decide +kernel
theorem dX10_isHeard_20 : decode cX10_isHeard 20 = .ok (.iadd, 1) := by decide +kernel
theorem dX10_isHeard_21 : decode cX10_isHeard 21 = .ok (.iastore, 1) := by decide +kernel
theorem dX10_isHeard_22 : decode cX10_isHeard 22 = .ok (.iconst 0, 1) := by decide +kernel
theorem dX10_isHeard_23 : decode cX10_isHeard 23 = .ok (.istore_n 3, 1) := by decide +kernel
theorem dX10_isHeard_24 : decode cX10_isHeard 24 = .ok (.iload_n 3, 1) := by decide +kernel
theorem dX10_isHeard_25 : decode cX10_isHeard 25 = .ok (.aload_n 0, 1) := by decide +kernel
theorem dX10_isHeard_26 : decode cX10_isHeard 26 = .ok (.getfield 7, 3) := by decide +kernel
theorem dX10_isHeard_29 : decode cX10_isHeard 29 = .ok (.bipush 62, 2) := by decide +kernel
theorem dX10_isHeard_31 : decode cX10_isHeard 31 = .ok (.iaload, 1) := by decide +kernel
theorem dX10_isHeard_32 : decode cX10_isHeard 32 = .ok (.if_icmp .ge 64, 3) := by decide +kernel
theorem dX10_isHeard_35 : decode cX10_isHeard 35 = .ok (.aload_n 0, 1) := by decide +kernel
theorem dX10_isHeard_36 : decode cX10_isHeard 36 = .ok (.getfield 7, 3) := by decide +kernel
theorem dX10_isHeard_39 : decode cX10_isHeard 39 = .ok (.iconst 4, 1) := by decide +kernel
theorem dX10_isHeard_40 : decode cX10_isHeard 40 = .ok (.iload_n 3, 1) := by decide +kernel
theorem dX10_isHeard_41 : decode cX10_isHeard 41 = .ok (.iadd, 1) := by decide +kernel
theorem dX10_isHeard_42 : decode cX10_isHeard 42 = .ok (.aload_n 0, 1) := by decide +kernel
theorem dX10_isHeard_43 : decode cX10_isHeard 43 = .ok (.getfield 7, 3) := by decide +kernel
theorem dX10_isHeard_46 : decode cX10_isHeard 46 = .ok (.bipush 84, 2) := by decide +kernel
theorem dX10_isHeard_48 : decode cX10_isHeard 48 = .ok (.iload_n 2, 1) := by decide +kernel
theorem dX10_isHeard_49 : decode cX10_isHeard 49 = .ok (.iadd, 1) := by decide +kernel
theorem dX10_isHeard_50 : decode cX10_isHeard 50 = .ok (.iaload, 1) := by decide +kernel
theorem dX10_isHeard_51 : decode cX10_isHeard 51 = .ok (.aload_n 0, 1) := by decide +kernel
theorem dX10_isHeard_52 : decode cX10_isHeard 52 = .ok (.getfield 7, 3) := by decide +kernel
theorem dX10_isHeard_55 : decode cX10_isHeard 55 = .ok (.iconst 3, 1) := by decide +kernel
theorem dX10_isHeard_56 : decode cX10_isHeard 56 = .ok (.iaload, 1) := by decide +kernel
theorem dX10_isHeard_57 : decode cX10_isHeard 57 = .ok (.iconst (-1), 1) := by decide +kernel
theorem dX10_isHeard_58 : decode cX10_isHeard 58 = .ok (.ixor, 1) := by decide +kernel
theorem dX10_isHeard_59 : decode cX10_isHeard 59 = .ok (.iand, 1) := by decide +kernel
theorem dX10_isHeard_60 : decode cX10_isHeard 60 = .ok (.iload_n 3, 1) := by decide +kernel
theorem dX10_isHeard_61 : decode cX10_isHeard 61 = .ok (.ishr, 1) := by decide +kernel
theorem dX10_isHeard_62 : decode cX10_isHeard 62 = .ok (.iconst 1, 1) := by decide +kernel
theorem dX10_isHeard_63 : decode cX10_isHeard 63 = .ok (.iand, 1) := by decide +kernel
theorem dX10_isHeard_64 : decode cX10_isHeard 64 = .ok (.iconst 1, 1) := by decide +kernel
theorem dX10_isHeard_65 : decode cX10_isHeard 65 = .ok (.if_icmp .ne 16, 3) := by decide +kernel
theorem dX10_isHeard_68 : decode cX10_isHeard 68 = .ok (.aload_n 0, 1) := by decide +kernel
theorem dX10_isHeard_69 : decode cX10_isHeard 69 = .ok (.getfield 7, 3) := by decide +kernel
theorem dX10_isHeard_72 : decode cX10_isHeard 72 = .ok (.iconst 4, 1) := by decide +kernel
theorem dX10_isHeard_73 : decode cX10_isHeard 73 = .ok (.iload_n 3, 1) := by decide +kernel
theorem dX10_isHeard_74 : decode cX10_isHeard 74 = .ok (.iadd, 1) := by decide +kernel
theorem dX10_isHeard_75 : decode cX10_isHeard 75 = .ok (.iaload, 1) := by decide +kernel
theorem dX10_isHeard_76 : decode cX10_isHeard 76 = .ok (.iconst 2, 1) := by decide +kernel
theorem dX10_isHeard_77 : decode cX10_isHeard 77 = .ok (.idiv, 1) := by decide +kernel
theorem dX10_isHeard_78 : decode cX10_isHeard 78 = .ok (.goto 11, 3) := by decide +kernel
theorem dX10_isHeard_81 : decode cX10_isHeard 81 = .ok (.aload_n 0, 1) := by decide +kernel
theorem dX10_isHeard_82 : decode cX10_isHeard 82 = .ok (.getfield 7, 3) := by decide +kernel
theorem dX10_isHeard_85 : decode cX10_isHeard 85 = .ok (.iconst 4, 1) := by decide +kernel
theorem dX10_isHeard_86 : decode cX10_isHeard 86 = .ok (.iload_n 3, 1) := by decide +kernel
theorem dX10_isHeard_87 : decode cX10_isHeard 87 = .ok (.iadd, 1) := by decide +kernel
theorem dX10_isHeard_88 : decode cX10_isHeard 88 = .ok (.iaload, 1) := by decide +kernel
theorem dX10_isHeard_89 : decode cX10_isHeard 89 = .ok (.iastore, 1) := by decide +kernel
theorem dX10_isHeard_90 : decode cX10_isHeard 90 = .ok (.iinc 3 1, 3) := by decide +kernel
theorem dX10_isHeard_93 : decode cX10_isHeard 93 = .ok (.goto (-69), 3) := by decide +kernel
theorem dX10_isHeard_96 : decode cX10_isHeard 96 = .ok (.iconst 0, 1) := by decide +kernel
theorem dX10_isHeard_97 : decode cX10_isHeard 97 = .ok (.istore_n 3, 1) := by decide +kernel
theorem dX10_isHeard_98 : decode cX10_isHeard 98 = .ok (.iload_n 3, 1) := by decide +kernel
theorem dX10_isHeard_99 : decode cX10_isHeard 99 = .ok (.aload_n 0, 1) := by decide +kernel
theorem dX10_isHeard_100 : decode cX10_isHeard 100 = .ok (.getfield 7, 3) := by decide +kernel
theorem dX10_isHeard_103 : decode cX10_isHeard 103 = .ok (.bipush 63, 2) := by decide +kernel
theorem dX10_isHeard_105 : decode cX10_isHeard 105 = .ok (.iaload, 1) := by decide +kernel
theorem dX10_isHeard_106 : decode cX10_isHeard 106 = .ok (.if_icmp .ge 45, 3) := by decide +kernel
theorem dX10_isHeard_109 : decode cX10_isHeard 109 = .ok (.aload_n 0, 1) := by decide +kernel
theorem dX10_isHeard_110 : decode cX10_isHeard 110 = .ok (.getfield 7, 3) := by decide +kernel
theorem dX10_isHeard_113 : decode cX10_isHeard 113 = .ok (.bipush 32, 2) := by decide +kernel
theorem dX10_isHeard_115 : decode cX10_isHeard 115 = .ok (.iload_n 3, 1) := by decide +kernel
theorem dX10_isHeard_116 : decode cX10_isHeard 116 = .ok (.iadd, 1) := by decide +kernel
theorem dX10_isHeard_117 : decode cX10_isHeard 117 = .ok (.iaload, 1) := by decide +kernel
theorem dX10_isHeard_118 : decode cX10_isHeard 118 = .ok (.aload_n 0, 1) := by decide +kernel
theorem dX10_isHeard_119 : decode cX10_isHeard 119 = .ok (.getfield 7, 3) := by decide +kernel
theorem dX10_isHeard_122 : decode cX10_isHeard 122 = .ok (.bipush 32, 2) := by decide +kernel
theorem dX10_isHeard_124 : decode cX10_isHeard 124 = .ok (.iload_n 1, 1) := by decide +kernel
theorem dX10_isHeard_125 : decode cX10_isHeard 125 = .ok (.iadd, 1) := by decide +kernel
theorem dX10_isHeard_126 : decode cX10_isHeard 126 = .ok (.iaload, 1) := by decide +kernel
theorem dX10_isHeard_127 : decode cX10_isHeard 127 = .ok (.if_icmp .ne 18, 3) := by decide +kernel
theorem dX10_isHeard_130 : decode cX10_isHeard 130 = .ok (.aload_n 0, 1) := by decide +kernel
theorem dX10_isHeard_131 : decode cX10_isHeard 131 = .ok (.getfield 7, 3) := by decide +kernel
theorem dX10_isHeard_134 : decode cX10_isHeard 134 = .ok (.bipush 42, 2) := by decide +kernel
theorem dX10_isHeard_136 : decode cX10_isHeard 136 = .ok (.iload_n 3, 1) := by decide +kernel
theorem dX10_isHeard_137 : decode cX10_isHeard 137 = .ok (.iadd, 1) := by decide +kernel
theorem dX10_isHeard_138 : decode cX10_isHeard 138 = .ok (.dup2, 1) := by decide +kernel
theorem dX10_isHeard_139 : decode cX10_isHeard 139 = .ok (.iaload, 1) := by decide +kernel
theorem dX10_isHeard_140 : decode cX10_isHeard 140 = .ok (.iconst 1, 1) := by decide +kernel
theorem dX10_isHeard_141 : decode cX10_isHeard 141 = .ok (.iload_n 2, 1) := by decide +kernel
theorem dX10_isHeard_142 : decode cX10_isHeard 142 = .ok (.ishl, 1) := by decide +kernel
theorem dX10_isHeard_143 : decode cX10_isHeard 143 = .ok (.ior, 1) := by decide +kernel
theorem dX10_isHeard_144 : decode cX10_isHeard 144 = .ok (.iastore, 1) := by decide +kernel
theorem dX10_isHeard_145 : decode cX10_isHeard 145 = .ok (.iinc 3 1, 3) := by decide +kernel
theorem dX10_isHeard_148 : decode cX10_isHeard 148 = .ok (.goto (-50), 3) := by decide +kernel
theorem dX10_isHeard_151 : decode cX10_isHeard 151 = .ok (.aload_n 0, 1) := by decide +kernel
theorem dX10_isHeard_152 : decode cX10_isHeard 152 = .ok (.iconst 0, 1) := by decide +kernel
theorem dX10_isHeard_153 : decode cX10_isHeard 153 = .ok (.iload_n 1, 1) := by decide +kernel
theorem dX10_isHeard_154 : decode cX10_isHeard 154 = .ok (.iload_n 2, 1) := by decide +kernel
theorem dX10_isHeard_155 : decode cX10_isHeard 155 = .ok (.invokevirtual 320, 3) := by decide +kernel
theorem dX10_isHeard_158 : decode cX10_isHeard 158 = .ok (.return_, 1) := by decide +kernel
theorem dX10_says0_0 : decode cX10_says0 0 = .ok (.iconst 0, 1) := by decide +kernel
theorem dX10_says0_1 : decode cX10_says0 1 = .ok (.istore_n 3, 1) := by decide +kernel
theorem dX10_says0_2 : decode cX10_says0 2 = .ok (.iconst 0, 1) := by decide +kernel
theorem dX10_says0_3 : decode cX10_says0 3 = .ok (.istore 4, 2) := by decide +kernel
theorem dX10_says0_5 : decode cX10_says0 5 = .ok (.iload 4, 2) := by decide +kernel
theorem dX10_says0_7 : decode cX10_says0 7 = .ok (.aload_n 0, 1) := by decide +kernel
theorem dX10_says0_8 : decode cX10_says0 8 = .ok (.getfield 7, 3) := by decide +kernel
theorem dX10_says0_11 : decode cX10_says0 11 = .ok (.bipush 63, 2) := by decide +kernel
theorem dX10_says0_13 : decode cX10_says0 13 = .ok (.iaload, 1) := by decide +kernel
theorem dX10_says0_14 : decode cX10_says0 14 = .ok (.if_icmp .ge 55, 3) := by decide +kernel
theorem dX10_says0_17 : decode cX10_says0 17 = .ok (.iload_n 3, 1) := by decide +kernel
theorem dX10_says0_18 : decode cX10_says0 18 = .ok (.iload 4, 2) := by decide +kernel
theorem dX10_says0_20 : decode cX10_says0 20 = .ok (.iload_n 1, 1) := by decide +kernel
theorem dX10_says0_21 : decode cX10_says0 21 = .ok (.if_icmp .eq 39, 3) := by decide +kernel
theorem dX10_says0_24 : decode cX10_says0 24 = .ok (.aload_n 0, 1) := by decide +kernel
theorem dX10_says0_25 : decode cX10_says0 25 = .ok (.getfield 7, 3) := by decide +kernel
theorem dX10_says0_28 : decode cX10_says0 28 = .ok (.bipush 32, 2) := by decide +kernel
theorem dX10_says0_30 : decode cX10_says0 30 = .ok (.iload 4, 2) := by decide +kernel
theorem dX10_says0_32 : decode cX10_says0 32 = .ok (.iadd, 1) := by decide +kernel
theorem dX10_says0_33 : decode cX10_says0 33 = .ok (.iaload, 1) := by decide +kernel
theorem dX10_says0_34 : decode cX10_says0 34 = .ok (.aload_n 0, 1) := by decide +kernel
theorem dX10_says0_35 : decode cX10_says0 35 = .ok (.getfield 7, 3) := by decide +kernel
theorem dX10_says0_38 : decode cX10_says0 38 = .ok (.bipush 32, 2) := by decide +kernel
theorem dX10_says0_40 : decode cX10_says0 40 = .ok (.iload_n 1, 1) := by decide +kernel
theorem dX10_says0_41 : decode cX10_says0 41 = .ok (.iadd, 1) := by decide +kernel
theorem dX10_says0_42 : decode cX10_says0 42 = .ok (.iaload, 1) := by decide +kernel
theorem dX10_says0_43 : decode cX10_says0 43 = .ok (.if_icmp .ne 17, 3) := by decide +kernel
theorem dX10_says0_46 : decode cX10_says0 46 = .ok (.aload_n 0, 1) := by decide +kernel
theorem dX10_says0_47 : decode cX10_says0 47 = .ok (.iload 4, 2) := by decide +kernel
theorem dX10_says0_49 : decode cX10_says0 49 = .ok (.iload_n 2, 1) := by decide +kernel
theorem dX10_says0_50 : decode cX10_says0 50 = .ok (.invokevirtual 288, 3) := by decide +kernel
theorem dX10_says0_53 : decode cX10_says0 53 = .ok (.ifCond .eq 7, 3) := by decide +kernel
theorem dX10_says0_56 : decode cX10_says0 56 = .ok (.iconst 1, 1) := by decide +kernel
theorem dX10_says0_57 : decode cX10_says0 57 = .ok (.goto 4, 3) := by decide +kernel
theorem dX10_says0_60 : decode cX10_says0 60 = .ok (.iconst 0, 1) := by decide +kernel
theorem dX10_says0_61 : decode cX10_says0 61 = .ok (.iadd, 1) := by decide +kernel
theorem dX10_says0_62 : decode cX10_says0 62 = .ok (.istore_n 3, 1) := by decide +kernel
theorem dX10_says0_63 : decode cX10_says0 63 = .ok (.iinc 4 1, 3) := by decide +kernel
theorem dX10_says0_66 : decode cX10_says0 66 = .ok (.goto (-61), 3) := by decide +kernel
theorem dX10_says0_69 : decode cX10_says0 69 = .ok (.iload_n 3, 1) := by decide +kernel
theorem dX10_says0_70 : decode cX10_says0 70 = .ok (.aload_n 0, 1) := by decide +kernel
theorem dX10_says0_71 : decode cX10_says0 71 = .ok (.iload_n 2, 1) := by decide +kernel
theorem dX10_says0_72 : decode cX10_says0 72 = .ok (.aload_n 0, 1) := by decide +kernel
theorem dX10_says0_73 : decode cX10_says0 73 = .ok (.getfield 7, 3) := by decide +kernel
theorem dX10_says0_76 : decode cX10_says0 76 = .ok (.bipush 32, 2) := by decide +kernel
theorem dX10_says0_78 : decode cX10_says0 78 = .ok (.iload_n 1, 1) := by decide +kernel
theorem dX10_says0_79 : decode cX10_says0 79 = .ok (.iadd, 1) := by decide +kernel
theorem dX10_says0_80 : decode cX10_says0 80 = .ok (.iaload, 1) := by decide +kernel
theorem dX10_says0_81 : decode cX10_says0 81 = .ok (.invokevirtual 324, 3) := by decide +kernel
theorem dX10_says0_84 : decode cX10_says0 84 = .ok (.if_icmp .lt 7, 3) := by decide +kernel
theorem dX10_says0_87 : decode cX10_says0 87 = .ok (.iconst 1, 1) := by decide +kernel
theorem dX10_says0_88 : decode cX10_says0 88 = .ok (.goto 4, 3) := by decide +kernel
theorem dX10_says0_91 : decode cX10_says0 91 = .ok (.iconst 0, 1) := by decide +kernel
theorem dX10_says0_92 : decode cX10_says0 92 = .ok (.istore 4, 2) := by decide +kernel
theorem dX10_says0_94 : decode cX10_says0 94 = .ok (.aload_n 0, 1) := by decide +kernel
theorem dX10_says0_95 : decode cX10_says0 95 = .ok (.getfield 7, 3) := by decide +kernel
theorem dX10_says0_98 : decode cX10_says0 98 = .ok (.bipush 52, 2) := by decide +kernel
theorem dX10_says0_100 : decode cX10_says0 100 = .ok (.iload_n 1, 1) := by decide +kernel
theorem dX10_says0_101 : decode cX10_says0 101 = .ok (.iadd, 1) := by decide +kernel
theorem dX10_says0_102 : decode cX10_says0 102 = .ok (.dup2, 1) := by decide +kernel
theorem dX10_says0_103 : decode cX10_says0 103 = .ok (.iaload, 1) := by decide +kernel
theorem dX10_says0_104 : decode cX10_says0 104 = .ok (.aload_n 0, 1) := by decide +kernel
theorem dX10_says0_105 : decode cX10_says0 105 = .ok (.iload_n 2, 1) := by decide +kernel
theorem dX10_says0_106 : decode cX10_says0 106 = .ok (.aload_n 0, 1) := by decide +kernel
theorem dX10_says0_107 : decode cX10_says0 107 = .ok (.getfield 7, 3) := by decide +kernel
theorem dX10_says0_110 : decode cX10_says0 110 = .ok (.bipush 32, 2) := by decide +kernel
theorem dX10_says0_112 : decode cX10_says0 112 = .ok (.iload_n 1, 1) := by decide +kernel
theorem dX10_says0_113 : decode cX10_says0 113 = .ok (.iadd, 1) := by decide +kernel
theorem dX10_says0_114 : decode cX10_says0 114 = .ok (.iaload, 1) := by decide +kernel
theorem dX10_says0_115 : decode cX10_says0 115 = .ok (.invokevirtual 317, 3) := by decide +kernel
theorem dX10_says0_118 : decode cX10_says0 118 = .ok (.isub, 1) := by decide +kernel
theorem dX10_says0_119 : decode cX10_says0 119 = .ok (.iastore, 1) := by decide +kernel
theorem dX10_says0_120 : decode cX10_says0 120 = .ok (.iload 4, 2) := by decide +kernel
theorem dX10_says0_122 : decode cX10_says0 122 = .ok (.ifCond .eq 12, 3) := by decide +kernel
theorem dX10_says0_125 : decode cX10_says0 125 = .ok (.aload_n 0, 1) := by decide +kernel
theorem dX10_says0_126 : decode cX10_says0 126 = .ok (.iload_n 1, 1) := by decide +kernel
theorem dX10_says0_127 : decode cX10_says0 127 = .ok (.iload_n 2, 1) := by decide +kernel
theorem dX10_says0_128 : decode cX10_says0 128 = .ok (.invokevirtual 327, 3) := by decide +kernel
theorem dX10_says0_131 : decode cX10_says0 131 = .ok (.goto 10, 3) := by decide +kernel
theorem dX10_says0_134 : decode cX10_says0 134 = .ok (.aload_n 0, 1) := by decide +kernel
theorem dX10_says0_135 : decode cX10_says0 135 = .ok (.iconst 1, 1) := by decide +kernel
theorem dX10_says0_136 : decode cX10_says0 136 = .ok (.iload_n 1, 1) := by decide +kernel
theorem dX10_says0_137 : decode cX10_says0 137 = .ok (.iload_n 2, 1) := by decide +kernel
theorem dX10_says0_138 : decode cX10_says0 138 = .ok (.invokevirtual 320, 3) := by decide +kernel
theorem dX10_says0_141 : decode cX10_says0 141 = .ok (.iload 4, 2) := by decide +kernel
theorem dX10_says0_143 : decode cX10_says0 143 = .ok (.ireturn, 1) := by decide +kernel
theorem dX10_say_0 : decode cX10_say 0 = .ok (.aload_n 0, 1) := by decide +kernel
theorem dX10_say_1 : decode cX10_say 1 = .ok (.iload_n 1, 1) := by decide +kernel
theorem dX10_say_2 : decode cX10_say 2 = .ok (.invokevirtual 75, 3) := by decide +kernel
theorem dX10_say_5 : decode cX10_say 5 = .ok (.ifCond .eq 20, 3) := by decide +kernel
theorem dX10_say_8 : decode cX10_say 8 = .ok (.aload_n 0, 1) := by decide +kernel
theorem dX10_say_9 : decode cX10_say 9 = .ok (.iload_n 2, 1) := by decide +kernel
theorem dX10_say_10 : decode cX10_say 10 = .ok (.invokevirtual 78, 3) := by decide +kernel
theorem dX10_say_13 : decode cX10_say 13 = .ok (.ifCond .eq 12, 3) := by decide +kernel
theorem dX10_say_16 : decode cX10_say 16 = .ok (.aload_n 0, 1) := by decide +kernel
theorem dX10_say_17 : decode cX10_say 17 = .ok (.iload_n 1, 1) := by decide +kernel
theorem dX10_say_18 : decode cX10_say 18 = .ok (.iload_n 2, 1) := by decide +kernel
theorem dX10_say_19 : decode cX10_say 19 = .ok (.invokevirtual 330, 3) := by decide +kernel
theorem dX10_say_22 : decode cX10_say 22 = .ok (.ifCond .ne 5, 3) := by decide +kernel
theorem dX10_say_25 : decode cX10_say 25 = .ok (.iconst (-1), 1) := by decide +kernel
theorem dX10_say_26 : decode cX10_say 26 = .ok (.ireturn, 1) := by decide +kernel
theorem dX10_say_27 : decode cX10_say 27 = .ok (.aload_n 0, 1) := by decide +kernel
theorem dX10_say_28 : decode cX10_say 28 = .ok (.invokevirtual 333, 3) := by decide +kernel
theorem dX10_say_31 : decode cX10_say 31 = .ok (.aload_n 0, 1) := by decide +kernel
theorem dX10_say_32 : decode cX10_say 32 = .ok (.iload_n 1, 1) := by decide +kernel
theorem dX10_say_33 : decode cX10_say 33 = .ok (.iload_n 2, 1) := by decide +kernel
theorem dX10_say_34 : decode cX10_say 34 = .ok (.invokevirtual 336, 3) := by decide +kernel
theorem dX10_say_37 : decode cX10_say 37 = .ok (.ifCond .eq 7, 3) := by decide +kernel
theorem dX10_say_40 : decode cX10_say 40 = .ok (.iconst 1, 1) := by decide +kernel
theorem dX10_say_41 : decode cX10_say 41 = .ok (.goto 4, 3) := by decide +kernel
theorem dX10_say_44 : decode cX10_say 44 = .ok (.iconst 0, 1) := by decide +kernel
theorem dX10_say_45 : decode cX10_say 45 = .ok (.ireturn, 1) := by decide +kernel
theorem dX10_movesTo_0 : decode cX10_movesTo 0 = .ok (.aload_n 0, 1) := by decide +kernel
theorem dX10_movesTo_1 : decode cX10_movesTo 1 = .ok (.getfield 7, 3) := by decide +kernel
theorem dX10_movesTo_4 : decode cX10_movesTo 4 = .ok (.bipush 32, 2) := by decide +kernel
theorem dX10_movesTo_6 : decode cX10_movesTo 6 = .ok (.iload_n 1, 1) := by decide +kernel
theorem dX10_movesTo_7 : decode cX10_movesTo 7 = .ok (.iadd, 1) := by decide +kernel
theorem dX10_movesTo_8 : decode cX10_movesTo 8 = .ok (.iload_n 2, 1) := by decide +kernel
theorem dX10_movesTo_9 : decode cX10_movesTo 9 = .ok (.iastore, 1) := by decide +kernel
theorem dX10_movesTo_10 : decode cX10_movesTo 10 = .ok (.aload_n 0, 1) := by decide +kernel
theorem dX10_movesTo_11 : decode cX10_movesTo 11 = .ok (.iconst 3, 1) := by decide +kernel
theorem dX10_movesTo_12 : decode cX10_movesTo 12 = .ok (.iload_n 1, 1) := by decide +kernel
theorem dX10_movesTo_13 : decode cX10_movesTo 13 = .ok (.iload_n 2, 1) := by decide +kernel
theorem dX10_movesTo_14 : decode cX10_movesTo 14 = .ok (.invokevirtual 320, 3) := by decide +kernel
theorem dX10_movesTo_17 : decode cX10_movesTo 17 = .ok (.return_, 1) := by decide +kernel
theorem dX10_move_0 : decode cX10_move 0 = .ok (.aload_n 0, 1) := by decide +kernel
theorem dX10_move_1 : decode cX10_move 1 = .ok (.iload_n 1, 1) := by decide +kernel
theorem dX10_move_2 : decode cX10_move 2 = .ok (.invokevirtual 75, 3) := by decide +kernel
theorem dX10_move_5 : decode cX10_move 5 = .ok (.ifCond .eq 23, 3) := by decide +kernel
theorem dX10_move_8 : decode cX10_move 8 = .ok (.iload_n 2, 1) := by decide +kernel
theorem dX10_move_9 : decode cX10_move 9 = .ok (.invokestatic 71, 3) := by decide +kernel
theorem dX10_move_12 : decode cX10_move 12 = .ok (.ifCond .eq 16, 3) := by decide +kernel
theorem dX10_move_15 : decode cX10_move 15 = .ok (.aload_n 0, 1) := by decide +kernel
theorem dX10_move_16 : decode cX10_move 16 = .ok (.getfield 7, 3) := by decide +kernel
theorem dX10_move_19 : decode cX10_move 19 = .ok (.bipush 32, 2) := by decide +kernel
theorem dX10_move_21 : decode cX10_move 21 = .ok (.iload_n 1, 1) := by decide +kernel
theorem dX10_move_22 : decode cX10_move 22 = .ok (.iadd, 1) := by decide +kernel
theorem dX10_move_23 : decode cX10_move 23 = .ok (.iaload, 1) := by decide +kernel
theorem dX10_move_24 : decode cX10_move 24 = .ok (.iload_n 2, 1) := by decide +kernel
theorem dX10_move_25 : decode cX10_move 25 = .ok (.if_icmp .ne 5, 3) := by decide +kernel
theorem dX10_move_28 : decode cX10_move 28 = .ok (.iconst 0, 1) := by decide +kernel
theorem dX10_move_29 : decode cX10_move 29 = .ok (.ireturn, 1) := by decide +kernel
theorem dX10_move_30 : decode cX10_move 30 = .ok (.aload_n 0, 1) := by decide +kernel
theorem dX10_move_31 : decode cX10_move 31 = .ok (.invokevirtual 333, 3) := by decide +kernel
theorem dX10_move_34 : decode cX10_move 34 = .ok (.aload_n 0, 1) := by decide +kernel
theorem dX10_move_35 : decode cX10_move 35 = .ok (.iload_n 1, 1) := by decide +kernel
theorem dX10_move_36 : decode cX10_move 36 = .ok (.iload_n 2, 1) := by decide +kernel
theorem dX10_move_37 : decode cX10_move 37 = .ok (.invokevirtual 339, 3) := by decide +kernel
theorem dX10_move_40 : decode cX10_move 40 = .ok (.iconst 1, 1) := by decide +kernel
theorem dX10_move_41 : decode cX10_move 41 = .ok (.ireturn, 1) := by decide +kernel
theorem dX10_teach_0 : decode cX10_teach 0 = .ok (.aload_n 0, 1) := by decide +kernel
theorem dX10_teach_1 : decode cX10_teach 1 = .ok (.iload_n 1, 1) := by decide +kernel
theorem dX10_teach_2 : decode cX10_teach 2 = .ok (.invokevirtual 75, 3) := by decide +kernel
theorem dX10_teach_5 : decode cX10_teach 5 = .ok (.ifCond .eq 28, 3) := by decide +kernel
theorem dX10_teach_8 : decode cX10_teach 8 = .ok (.aload_n 0, 1) := by decide +kernel
theorem dX10_teach_9 : decode cX10_teach 9 = .ok (.iload_n 2, 1) := by decide +kernel
theorem dX10_teach_10 : decode cX10_teach 10 = .ok (.invokevirtual 78, 3) := by decide +kernel
theorem dX10_teach_13 : decode cX10_teach 13 = .ok (.ifCond .eq 20, 3) := by decide +kernel
theorem dX10_teach_16 : decode cX10_teach 16 = .ok (.aload_n 0, 1) := by decide +kernel
theorem dX10_teach_17 : decode cX10_teach 17 = .ok (.iload_n 2, 1) := by decide +kernel
theorem dX10_teach_18 : decode cX10_teach 18 = .ok (.invokevirtual 314, 3) := by decide +kernel
theorem dX10_teach_21 : decode cX10_teach 21 = .ok (.ifCond .ne 12, 3) := by decide +kernel
theorem dX10_teach_24 : decode cX10_teach 24 = .ok (.aload_n 0, 1) := by decide +kernel
theorem dX10_teach_25 : decode cX10_teach 25 = .ok (.iload_n 1, 1) := by decide +kernel
theorem dX10_teach_26 : decode cX10_teach 26 = .ok (.iload_n 2, 1) := by decide +kernel
theorem dX10_teach_27 : decode cX10_teach 27 = .ok (.invokevirtual 288, 3) := by decide +kernel
theorem dX10_teach_30 : decode cX10_teach 30 = .ok (.ifCond .eq 5, 3) := by decide +kernel
theorem dX10_teach_33 : decode cX10_teach 33 = .ok (.iconst 0, 1) := by decide +kernel
theorem dX10_teach_34 : decode cX10_teach 34 = .ok (.ireturn, 1) := by decide +kernel
theorem dX10_teach_35 : decode cX10_teach 35 = .ok (.aload_n 0, 1) := by decide +kernel
theorem dX10_teach_36 : decode cX10_teach 36 = .ok (.invokevirtual 333, 3) := by decide +kernel
theorem dX10_teach_39 : decode cX10_teach 39 = .ok (.aload_n 0, 1) := by decide +kernel
theorem dX10_teach_40 : decode cX10_teach 40 = .ok (.getfield 7, 3) := by decide +kernel
theorem dX10_teach_43 : decode cX10_teach 43 = .ok (.bipush 42, 2) := by decide +kernel
theorem dX10_teach_45 : decode cX10_teach 45 = .ok (.iload_n 1, 1) := by decide +kernel
theorem dX10_teach_46 : decode cX10_teach 46 = .ok (.iadd, 1) := by decide +kernel
theorem dX10_teach_47 : decode cX10_teach 47 = .ok (.dup2, 1) := by decide +kernel
theorem dX10_teach_48 : decode cX10_teach 48 = .ok (.iaload, 1) := by decide +kernel
theorem dX10_teach_49 : decode cX10_teach 49 = .ok (.iconst 1, 1) := by decide +kernel
theorem dX10_teach_50 : decode cX10_teach 50 = .ok (.iload_n 2, 1) := by decide +kernel
theorem dX10_teach_51 : decode cX10_teach 51 = .ok (.ishl, 1) := by decide +kernel
theorem dX10_teach_52 : decode cX10_teach 52 = .ok (.ior, 1) := by decide +kernel
theorem dX10_teach_53 : decode cX10_teach 53 = .ok (.iastore, 1) := by decide +kernel
theorem dX10_teach_54 : decode cX10_teach 54 = .ok (.aload_n 0, 1) := by decide +kernel
theorem dX10_teach_55 : decode cX10_teach 55 = .ok (.iconst 4, 1) := by decide +kernel
theorem dX10_teach_56 : decode cX10_teach 56 = .ok (.iload_n 1, 1) := by decide +kernel
theorem dX10_teach_57 : decode cX10_teach 57 = .ok (.iload_n 2, 1) := by decide +kernel
theorem dX10_teach_58 : decode cX10_teach 58 = .ok (.invokevirtual 320, 3) := by decide +kernel
theorem dX10_teach_61 : decode cX10_teach 61 = .ok (.iconst 1, 1) := by decide +kernel
theorem dX10_teach_62 : decode cX10_teach 62 = .ok (.ireturn, 1) := by decide +kernel
theorem dX10_carve_0 : decode cX10_carve 0 = .ok (.aload_n 0, 1) := by decide +kernel
theorem dX10_carve_1 : decode cX10_carve 1 = .ok (.iload_n 1, 1) := by decide +kernel
theorem dX10_carve_2 : decode cX10_carve 2 = .ok (.invokevirtual 78, 3) := by decide +kernel
theorem dX10_carve_5 : decode cX10_carve 5 = .ok (.ifCond .eq 11, 3) := by decide +kernel
theorem dX10_carve_8 : decode cX10_carve 8 = .ok (.aload_n 0, 1) := by decide +kernel
theorem dX10_carve_9 : decode cX10_carve 9 = .ok (.iload_n 1, 1) := by decide +kernel
theorem dX10_carve_10 : decode cX10_carve 10 = .ok (.invokevirtual 314, 3) := by decide +kernel
theorem dX10_carve_13 : decode cX10_carve 13 = .ok (.ifCond .ne 5, 3) := by decide +kernel
theorem dX10_carve_16 : decode cX10_carve 16 = .ok (.iconst 0, 1) := by decide +kernel
theorem dX10_carve_17 : decode cX10_carve 17 = .ok (.ireturn, 1) := by decide +kernel
theorem dX10_carve_18 : decode cX10_carve 18 = .ok (.aload_n 0, 1) := by decide +kernel
theorem dX10_carve_19 : decode cX10_carve 19 = .ok (.invokevirtual 333, 3) := by decide +kernel
theorem dX10_carve_22 : decode cX10_carve 22 = .ok (.aload_n 0, 1) := by decide +kernel
theorem dX10_carve_23 : decode cX10_carve 23 = .ok (.getfield 7, 3) := by decide +kernel
theorem dX10_carve_26 : decode cX10_carve 26 = .ok (.iconst 3, 1) := by decide +kernel
theorem dX10_carve_27 : decode cX10_carve 27 = .ok (.dup2, 1) := by decide +kernel
theorem dX10_carve_28 : decode cX10_carve 28 = .ok (.iaload, 1) := by decide +kernel
theorem dX10_carve_29 : decode cX10_carve 29 = .ok (.iconst 1, 1) := by decide +kernel
theorem dX10_carve_30 : decode cX10_carve 30 = .ok (.iload_n 1, 1) := by decide +kernel
theorem dX10_carve_31 : decode cX10_carve 31 = .ok (.ishl, 1) := by decide +kernel
theorem dX10_carve_32 : decode cX10_carve 32 = .ok (.iconst (-1), 1) := by decide +kernel
theorem dX10_carve_33 : decode cX10_carve 33 = .ok (.ixor, 1) := by decide +kernel
theorem dX10_carve_34 : decode cX10_carve 34 = .ok (.iand, 1) := by decide +kernel
theorem dX10_carve_35 : decode cX10_carve 35 = .ok (.iastore, 1) := by decide +kernel
theorem dX10_carve_36 : decode cX10_carve 36 = .ok (.aload_n 0, 1) := by decide +kernel
theorem dX10_carve_37 : decode cX10_carve 37 = .ok (.getfield 7, 3) := by decide +kernel
theorem dX10_carve_40 : decode cX10_carve 40 = .ok (.iconst 4, 1) := by decide +kernel
theorem dX10_carve_41 : decode cX10_carve 41 = .ok (.iload_n 1, 1) := by decide +kernel
theorem dX10_carve_42 : decode cX10_carve 42 = .ok (.iadd, 1) := by decide +kernel
theorem dX10_carve_43 : decode cX10_carve 43 = .ok (.iconst 0, 1) := by decide +kernel
theorem dX10_carve_44 : decode cX10_carve 44 = .ok (.iastore, 1) := by decide +kernel
theorem dX10_carve_45 : decode cX10_carve 45 = .ok (.aload_n 0, 1) := by decide +kernel
theorem dX10_carve_46 : decode cX10_carve 46 = .ok (.iconst 5, 1) := by decide +kernel
theorem dX10_carve_47 : decode cX10_carve 47 = .ok (.iconst (-1), 1) := by decide +kernel
theorem dX10_carve_48 : decode cX10_carve 48 = .ok (.iload_n 1, 1) := by decide +kernel
theorem dX10_carve_49 : decode cX10_carve 49 = .ok (.invokevirtual 320, 3) := by decide +kernel
theorem dX10_carve_52 : decode cX10_carve 52 = .ok (.iconst 1, 1) := by decide +kernel
theorem dX10_carve_53 : decode cX10_carve 53 = .ok (.ireturn, 1) := by decide +kernel
theorem dX10_walks_0 : decode cX10_walks 0 = .ok (.aload_n 0, 1) := by decide +kernel
theorem dX10_walks_1 : decode cX10_walks 1 = .ok (.getfield 7, 3) := by decide +kernel
theorem dX10_walks_4 : decode cX10_walks 4 = .ok (.iload_n 1, 1) := by decide +kernel
theorem dX10_walks_5 : decode cX10_walks 5 = .ok (.iconst 1, 1) := by decide +kernel
theorem dX10_walks_6 : decode cX10_walks 6 = .ok (.iadd, 1) := by decide +kernel
theorem dX10_walks_7 : decode cX10_walks 7 = .ok (.iaload, 1) := by decide +kernel
theorem dX10_walks_8 : decode cX10_walks 8 = .ok (.istore_n 2, 1) := by decide +kernel
theorem dX10_walks_9 : decode cX10_walks 9 = .ok (.aload_n 0, 1) := by decide +kernel
theorem dX10_walks_10 : decode cX10_walks 10 = .ok (.getfield 7, 3) := by decide +kernel
theorem dX10_walks_13 : decode cX10_walks 13 = .ok (.iload_n 1, 1) := by decide +kernel
theorem dX10_walks_14 : decode cX10_walks 14 = .ok (.iconst 3, 1) := by decide +kernel
theorem dX10_walks_15 : decode cX10_walks 15 = .ok (.iadd, 1) := by decide +kernel
theorem dX10_walks_16 : decode cX10_walks 16 = .ok (.iaload, 1) := by decide +kernel
theorem dX10_walks_17 : decode cX10_walks 17 = .ok (.istore_n 3, 1) := by decide +kernel
theorem dX10_walks_18 : decode cX10_walks 18 = .ok (.aload_n 0, 1) := by decide +kernel
theorem dX10_walks_19 : decode cX10_walks 19 = .ok (.getfield 7, 3) := by decide +kernel
theorem dX10_walks_22 : decode cX10_walks 22 = .ok (.iload_n 1, 1) := by decide +kernel
theorem dX10_walks_23 : decode cX10_walks 23 = .ok (.iconst 2, 1) := by decide +kernel
theorem dX10_walks_24 : decode cX10_walks 24 = .ok (.iadd, 1) := by decide +kernel
theorem dX10_walks_25 : decode cX10_walks 25 = .ok (.iaload, 1) := by decide +kernel
theorem dX10_walks_26 : decode cX10_walks 26 = .ok (.bipush 9, 2) := by decide +kernel
theorem dX10_walks_28 : decode cX10_walks 28 = .ok (.if_icmp .ne 22, 3) := by decide +kernel
theorem dX10_walks_31 : decode cX10_walks 31 = .ok (.aload_n 0, 1) := by decide +kernel
theorem dX10_walks_32 : decode cX10_walks 32 = .ok (.getfield 7, 3) := by decide +kernel
theorem dX10_walks_35 : decode cX10_walks 35 = .ok (.bipush 32, 2) := by decide +kernel
theorem dX10_walks_37 : decode cX10_walks 37 = .ok (.iload_n 2, 1) := by decide +kernel
theorem dX10_walks_38 : decode cX10_walks 38 = .ok (.iadd, 1) := by decide +kernel
theorem dX10_walks_39 : decode cX10_walks 39 = .ok (.iaload, 1) := by decide +kernel
theorem dX10_walks_40 : decode cX10_walks 40 = .ok (.iload_n 3, 1) := by decide +kernel
theorem dX10_walks_41 : decode cX10_walks 41 = .ok (.if_icmp .eq 9, 3) := by decide +kernel
theorem dX10_walks_44 : decode cX10_walks 44 = .ok (.aload_n 0, 1) := by decide +kernel
theorem dX10_walks_45 : decode cX10_walks 45 = .ok (.iload_n 2, 1) := by decide +kernel
theorem dX10_walks_46 : decode cX10_walks 46 = .ok (.iload_n 3, 1) := by decide +kernel
theorem dX10_walks_47 : decode cX10_walks 47 = .ok (.invokevirtual 339, 3) := by decide +kernel
theorem dX10_walks_50 : decode cX10_walks 50 = .ok (.aload_n 0, 1) := by decide +kernel
theorem dX10_walks_51 : decode cX10_walks 51 = .ok (.getfield 7, 3) := by decide +kernel
theorem dX10_walks_54 : decode cX10_walks 54 = .ok (.iload_n 1, 1) := by decide +kernel
theorem dX10_walks_55 : decode cX10_walks 55 = .ok (.iconst 2, 1) := by decide +kernel
theorem dX10_walks_56 : decode cX10_walks 56 = .ok (.iadd, 1) := by decide +kernel
theorem dX10_walks_57 : decode cX10_walks 57 = .ok (.iaload, 1) := by decide +kernel
theorem dX10_walks_58 : decode cX10_walks 58 = .ok (.bipush 10, 2) := by decide +kernel
theorem dX10_walks_60 : decode cX10_walks 60 = .ok (.if_icmp .ne 19, 3) := by decide +kernel
theorem dX10_walks_63 : decode cX10_walks 63 = .ok (.aload_n 0, 1) := by decide +kernel
theorem dX10_walks_64 : decode cX10_walks 64 = .ok (.iload_n 2, 1) := by decide +kernel
theorem dX10_walks_65 : decode cX10_walks 65 = .ok (.iload_n 3, 1) := by decide +kernel
theorem dX10_walks_66 : decode cX10_walks 66 = .ok (.invokevirtual 330, 3) := by decide +kernel
theorem dX10_walks_69 : decode cX10_walks 69 = .ok (.ifCond .eq 10, 3) := by decide +kernel
theorem dX10_walks_72 : decode cX10_walks 72 = .ok (.aload_n 0, 1) := by decide +kernel
theorem dX10_walks_73 : decode cX10_walks 73 = .ok (.iload_n 2, 1) := by decide +kernel
theorem dX10_walks_74 : decode cX10_walks 74 = .ok (.iload_n 3, 1) := by decide +kernel
theorem dX10_walks_75 : decode cX10_walks 75 = .ok (.invokevirtual 336, 3) := by decide +kernel
theorem dX10_walks_78 : decode cX10_walks 78 = .ok (.pop, 1) := by decide +kernel
theorem dX10_walks_79 : decode cX10_walks 79 = .ok (.aload_n 0, 1) := by decide +kernel
theorem dX10_walks_80 : decode cX10_walks 80 = .ok (.getfield 7, 3) := by decide +kernel
theorem dX10_walks_83 : decode cX10_walks 83 = .ok (.iload_n 1, 1) := by decide +kernel
theorem dX10_walks_84 : decode cX10_walks 84 = .ok (.iconst 2, 1) := by decide +kernel
theorem dX10_walks_85 : decode cX10_walks 85 = .ok (.iadd, 1) := by decide +kernel
theorem dX10_walks_86 : decode cX10_walks 86 = .ok (.iaload, 1) := by decide +kernel
theorem dX10_walks_87 : decode cX10_walks 87 = .ok (.bipush 11, 2) := by decide +kernel
theorem dX10_walks_89 : decode cX10_walks 89 = .ok (.if_icmp .ne 29, 3) := by decide +kernel
theorem dX10_walks_92 : decode cX10_walks 92 = .ok (.aload_n 0, 1) := by decide +kernel
theorem dX10_walks_93 : decode cX10_walks 93 = .ok (.getfield 7, 3) := by decide +kernel
theorem dX10_walks_96 : decode cX10_walks 96 = .ok (.bipush 52, 2) := by decide +kernel
theorem dX10_walks_98 : decode cX10_walks 98 = .ok (.iload_n 2, 1) := by decide +kernel
theorem dX10_walks_99 : decode cX10_walks 99 = .ok (.iadd, 1) := by decide +kernel
theorem dX10_walks_100 : decode cX10_walks 100 = .ok (.bipush 99, 2) := by decide +kernel
theorem dX10_walks_102 : decode cX10_walks 102 = .ok (.aload_n 0, 1) := by decide +kernel
theorem dX10_walks_103 : decode cX10_walks 103 = .ok (.getfield 7, 3) := by decide +kernel
theorem dX10_walks_106 : decode cX10_walks 106 = .ok (.bipush 52, 2) := by decide +kernel
theorem dX10_walks_108 : decode cX10_walks 108 = .ok (.iload_n 2, 1) := by decide +kernel
theorem dX10_walks_109 : decode cX10_walks 109 = .ok (.iadd, 1) := by decide +kernel
theorem dX10_walks_110 : decode cX10_walks 110 = .ok (.iaload, 1) := by decide +kernel
theorem dX10_walks_111 : decode cX10_walks 111 = .ok (.bipush 20, 2) := by decide +kernel
theorem dX10_walks_113 : decode cX10_walks 113 = .ok (.iadd, 1) := by decide +kernel
theorem dX10_walks_114 : decode cX10_walks 114 = .ok (.invokestatic 300, 3) := by decide +kernel
theorem dX10_walks_117 : decode cX10_walks 117 = .ok (.iastore, 1) := by decide +kernel
theorem dX10_walks_118 : decode cX10_walks 118 = .ok (.return_, 1) := by decide +kernel
theorem dX10_stalest_0 : decode cX10_stalest 0 = .ok (.iconst (-1), 1) := by decide +kernel
theorem dX10_stalest_1 : decode cX10_stalest 1 = .ok (.istore_n 2, 1) := by decide +kernel
theorem dX10_stalest_2 : decode cX10_stalest 2 = .ok (.iconst 0, 1) := by decide +kernel
theorem dX10_stalest_3 : decode cX10_stalest 3 = .ok (.istore_n 3, 1) := by decide +kernel
theorem dX10_stalest_4 : decode cX10_stalest 4 = .ok (.iload_n 3, 1) := by decide +kernel
theorem dX10_stalest_5 : decode cX10_stalest 5 = .ok (.aload_n 0, 1) := by decide +kernel
theorem dX10_stalest_6 : decode cX10_stalest 6 = .ok (.getfield 7, 3) := by decide +kernel
theorem dX10_stalest_9 : decode cX10_stalest 9 = .ok (.bipush 62, 2) := by decide +kernel
theorem dX10_stalest_11 : decode cX10_stalest 11 = .ok (.iaload, 1) := by decide +kernel
theorem dX10_stalest_12 : decode cX10_stalest 12 = .ok (.if_icmp .ge 52, 3) := by decide +kernel
theorem dX10_stalest_15 : decode cX10_stalest 15 = .ok (.aload_n 0, 1) := by decide +kernel
theorem dX10_stalest_16 : decode cX10_stalest 16 = .ok (.iload_n 1, 1) := by decide +kernel
theorem dX10_stalest_17 : decode cX10_stalest 17 = .ok (.iload_n 3, 1) := by decide +kernel
theorem dX10_stalest_18 : decode cX10_stalest 18 = .ok (.invokevirtual 288, 3) := by decide +kernel
theorem dX10_stalest_21 : decode cX10_stalest 21 = .ok (.ifCond .eq 37, 3) := by decide +kernel
theorem dX10_stalest_24 : decode cX10_stalest 24 = .ok (.aload_n 0, 1) := by decide +kernel
theorem dX10_stalest_25 : decode cX10_stalest 25 = .ok (.iload_n 3, 1) := by decide +kernel
theorem dX10_stalest_26 : decode cX10_stalest 26 = .ok (.invokevirtual 314, 3) := by decide +kernel
theorem dX10_stalest_29 : decode cX10_stalest 29 = .ok (.ifCond .ne 29, 3) := by decide +kernel
theorem dX10_stalest_32 : decode cX10_stalest 32 = .ok (.iload_n 2, 1) := by decide +kernel
theorem dX10_stalest_33 : decode cX10_stalest 33 = .ok (.iconst (-1), 1) := by decide +kernel
theorem dX10_stalest_34 : decode cX10_stalest 34 = .ok (.if_icmp .eq 22, 3) := by decide +kernel
theorem dX10_stalest_37 : decode cX10_stalest 37 = .ok (.aload_n 0, 1) := by decide +kernel
theorem dX10_stalest_38 : decode cX10_stalest 38 = .ok (.getfield 7, 3) := by decide +kernel
theorem dX10_stalest_41 : decode cX10_stalest 41 = .ok (.iconst 4, 1) := by decide +kernel
theorem dX10_stalest_42 : decode cX10_stalest 42 = .ok (.iload_n 3, 1) := by decide +kernel
theorem dX10_stalest_43 : decode cX10_stalest 43 = .ok (.iadd, 1) := by decide +kernel
theorem dX10_stalest_44 : decode cX10_stalest 44 = .ok (.iaload, 1) := by decide +kernel
theorem dX10_stalest_45 : decode cX10_stalest 45 = .ok (.aload_n 0, 1) := by decide +kernel
theorem dX10_stalest_46 : decode cX10_stalest 46 = .ok (.getfield 7, 3) := by decide +kernel
theorem dX10_stalest_49 : decode cX10_stalest 49 = .ok (.iconst 4, 1) := by decide +kernel
theorem dX10_stalest_50 : decode cX10_stalest 50 = .ok (.iload_n 2, 1) := by decide +kernel
theorem dX10_stalest_51 : decode cX10_stalest 51 = .ok (.iadd, 1) := by decide +kernel
theorem dX10_stalest_52 : decode cX10_stalest 52 = .ok (.iaload, 1) := by decide +kernel
theorem dX10_stalest_53 : decode cX10_stalest 53 = .ok (.if_icmp .le 5, 3) := by decide +kernel
theorem dX10_stalest_56 : decode cX10_stalest 56 = .ok (.iload_n 3, 1) := by decide +kernel
theorem dX10_stalest_57 : decode cX10_stalest 57 = .ok (.istore_n 2, 1) := by decide +kernel
theorem dX10_stalest_58 : decode cX10_stalest 58 = .ok (.iinc 3 1, 3) := by decide +kernel
theorem dX10_stalest_61 : decode cX10_stalest 61 = .ok (.goto (-57), 3) := by decide +kernel
theorem dX10_stalest_64 : decode cX10_stalest 64 = .ok (.iload_n 2, 1) := by decide +kernel
theorem dX10_stalest_65 : decode cX10_stalest 65 = .ok (.ireturn, 1) := by decide +kernel
theorem dX10_chats_0 : decode cX10_chats 0 = .ok (.iconst 0, 1) := by decide +kernel
theorem dX10_chats_1 : decode cX10_chats 1 = .ok (.istore_n 1, 1) := by decide +kernel
theorem dX10_chats_2 : decode cX10_chats 2 = .ok (.iload_n 1, 1) := by decide +kernel
theorem dX10_chats_3 : decode cX10_chats 3 = .ok (.aload_n 0, 1) := by decide +kernel
theorem dX10_chats_4 : decode cX10_chats 4 = .ok (.getfield 7, 3) := by decide +kernel
theorem dX10_chats_7 : decode cX10_chats 7 = .ok (.bipush 63, 2) := by decide +kernel
theorem dX10_chats_9 : decode cX10_chats 9 = .ok (.iaload, 1) := by decide +kernel
theorem dX10_chats_10 : decode cX10_chats 10 = .ok (.if_icmp .ge 66, 3) := by decide +kernel
theorem dX10_chats_13 : decode cX10_chats 13 = .ok (.aload_n 0, 1) := by decide +kernel
theorem dX10_chats_14 : decode cX10_chats 14 = .ok (.getfield 7, 3) := by decide +kernel
theorem dX10_chats_17 : decode cX10_chats 17 = .ok (.bipush 64, 2) := by decide +kernel
theorem dX10_chats_19 : decode cX10_chats 19 = .ok (.iaload, 1) := by decide +kernel
theorem dX10_chats_20 : decode cX10_chats 20 = .ok (.ifCond .le 56, 3) := by decide +kernel
theorem dX10_chats_23 : decode cX10_chats 23 = .ok (.aload_n 0, 1) := by decide +kernel
theorem dX10_chats_24 : decode cX10_chats 24 = .ok (.sipush 1000, 3) := by decide +kernel
theorem dX10_chats_27 : decode cX10_chats 27 = .ok (.invokevirtual 342, 3) := by decide +kernel
theorem dX10_chats_30 : decode cX10_chats 30 = .ok (.aload_n 0, 1) := by decide +kernel
theorem dX10_chats_31 : decode cX10_chats 31 = .ok (.getfield 7, 3) := by decide +kernel
theorem dX10_chats_34 : decode cX10_chats 34 = .ok (.bipush 64, 2) := by decide +kernel
theorem dX10_chats_36 : decode cX10_chats 36 = .ok (.iaload, 1) := by decide +kernel
theorem dX10_chats_37 : decode cX10_chats 37 = .ok (.if_icmp .lt 6, 3) := by decide +kernel
theorem dX10_chats_40 : decode cX10_chats 40 = .ok (.goto 30, 3) := by decide +kernel
theorem dX10_chats_43 : decode cX10_chats 43 = .ok (.aload_n 0, 1) := by decide +kernel
theorem dX10_chats_44 : decode cX10_chats 44 = .ok (.iload_n 1, 1) := by decide +kernel
theorem dX10_chats_45 : decode cX10_chats 45 = .ok (.invokevirtual 345, 3) := by decide +kernel
theorem dX10_chats_48 : decode cX10_chats 48 = .ok (.istore_n 2, 1) := by decide +kernel
theorem dX10_chats_49 : decode cX10_chats 49 = .ok (.iload_n 2, 1) := by decide +kernel
theorem dX10_chats_50 : decode cX10_chats 50 = .ok (.iconst (-1), 1) := by decide +kernel
theorem dX10_chats_51 : decode cX10_chats 51 = .ok (.if_icmp .eq 19, 3) := by decide +kernel
theorem dX10_chats_54 : decode cX10_chats 54 = .ok (.aload_n 0, 1) := by decide +kernel
theorem dX10_chats_55 : decode cX10_chats 55 = .ok (.iload_n 1, 1) := by decide +kernel
theorem dX10_chats_56 : decode cX10_chats 56 = .ok (.iload_n 2, 1) := by decide +kernel
theorem dX10_chats_57 : decode cX10_chats 57 = .ok (.invokevirtual 330, 3) := by decide +kernel
theorem dX10_chats_60 : decode cX10_chats 60 = .ok (.ifCond .eq 10, 3) := by decide +kernel
theorem dX10_chats_63 : decode cX10_chats 63 = .ok (.aload_n 0, 1) := by decide +kernel
theorem dX10_chats_64 : decode cX10_chats 64 = .ok (.iload_n 1, 1) := by decide +kernel
theorem dX10_chats_65 : decode cX10_chats 65 = .ok (.iload_n 2, 1) := by decide +kernel
theorem dX10_chats_66 : decode cX10_chats 66 = .ok (.invokevirtual 336, 3) := by decide +kernel
theorem dX10_chats_69 : decode cX10_chats 69 = .ok (.pop, 1) := by decide +kernel
theorem dX10_chats_70 : decode cX10_chats 70 = .ok (.iinc 1 1, 3) := by decide +kernel
theorem dX10_chats_73 : decode cX10_chats 73 = .ok (.goto (-71), 3) := by decide +kernel
theorem dX10_chats_76 : decode cX10_chats 76 = .ok (.return_, 1) := by decide +kernel
theorem dX10_lapses_0 : decode cX10_lapses 0 = .ok (.aload_n 0, 1) := by decide +kernel
theorem dX10_lapses_1 : decode cX10_lapses 1 = .ok (.getfield 7, 3) := by decide +kernel
theorem dX10_lapses_4 : decode cX10_lapses 4 = .ok (.iconst 3, 1) := by decide +kernel
theorem dX10_lapses_5 : decode cX10_lapses 5 = .ok (.dup2, 1) := by decide +kernel
theorem dX10_lapses_6 : decode cX10_lapses 6 = .ok (.iaload, 1) := by decide +kernel
theorem dX10_lapses_7 : decode cX10_lapses 7 = .ok (.iconst 1, 1) := by decide +kernel
theorem dX10_lapses_8 : decode cX10_lapses 8 = .ok (.iload_n 1, 1) := by decide +kernel
theorem dX10_lapses_9 : decode cX10_lapses 9 = .ok (.ishl, 1) := by decide +kernel
theorem dX10_lapses_10 : decode cX10_lapses 10 = .ok (.ior, 1) := by decide +kernel
theorem dX10_lapses_11 : decode cX10_lapses 11 = .ok (.iastore, 1) := by decide +kernel
theorem dX10_lapses_12 : decode cX10_lapses 12 = .ok (.iconst 0, 1) := by decide +kernel
theorem dX10_lapses_13 : decode cX10_lapses 13 = .ok (.istore_n 2, 1) := by decide +kernel
theorem dX10_lapses_14 : decode cX10_lapses 14 = .ok (.iload_n 2, 1) := by decide +kernel
theorem dX10_lapses_15 : decode cX10_lapses 15 = .ok (.aload_n 0, 1) := by decide +kernel
theorem dX10_lapses_16 : decode cX10_lapses 16 = .ok (.getfield 7, 3) := by decide +kernel
theorem dX10_lapses_19 : decode cX10_lapses 19 = .ok (.bipush 63, 2) := by decide +kernel
theorem dX10_lapses_21 : decode cX10_lapses 21 = .ok (.iaload, 1) := by decide +kernel
theorem dX10_lapses_22 : decode cX10_lapses 22 = .ok (.if_icmp .ge 26, 3) := by decide +kernel
theorem dX10_lapses_25 : decode cX10_lapses 25 = .ok (.aload_n 0, 1) := by decide +kernel
theorem dX10_lapses_26 : decode cX10_lapses 26 = .ok (.getfield 7, 3) := by decide +kernel
theorem dX10_lapses_29 : decode cX10_lapses 29 = .ok (.bipush 42, 2) := by decide +kernel
theorem dX10_lapses_31 : decode cX10_lapses 31 = .ok (.iload_n 2, 1) := by decide +kernel
theorem dX10_lapses_32 : decode cX10_lapses 32 = .ok (.iadd, 1) := by decide +kernel
theorem dX10_lapses_33 : decode cX10_lapses 33 = .ok (.dup2, 1) := by decide +kernel
theorem dX10_lapses_34 : decode cX10_lapses 34 = .ok (.iaload, 1) := by decide +kernel
theorem dX10_lapses_35 : decode cX10_lapses 35 = .ok (.iconst 1, 1) := by decide +kernel
theorem dX10_lapses_36 : decode cX10_lapses 36 = .ok (.iload_n 1, 1) := by decide +kernel
theorem dX10_lapses_37 : decode cX10_lapses 37 = .ok (.ishl, 1) := by decide +kernel
theorem dX10_lapses_38 : decode cX10_lapses 38 = .ok (.iconst (-1), 1) := by decide +kernel
theorem dX10_lapses_39 : decode cX10_lapses 39 = .ok (.ixor, 1) := by decide +kernel
theorem dX10_lapses_40 : decode cX10_lapses 40 = .ok (.iand, 1) := by decide +kernel
theorem dX10_lapses_41 : decode cX10_lapses 41 = .ok (.iastore, 1) := by decide +kernel
theorem dX10_lapses_42 : decode cX10_lapses 42 = .ok (.iinc 2 1, 3) := by decide +kernel
theorem dX10_lapses_45 : decode cX10_lapses 45 = .ok (.goto (-31), 3) := by decide +kernel
theorem dX10_lapses_48 : decode cX10_lapses 48 = .ok (.aload_n 0, 1) := by decide +kernel
theorem dX10_lapses_49 : decode cX10_lapses 49 = .ok (.iconst 2, 1) := by decide +kernel
theorem dX10_lapses_50 : decode cX10_lapses 50 = .ok (.iconst (-1), 1) := by decide +kernel
theorem dX10_lapses_51 : decode cX10_lapses 51 = .ok (.iload_n 1, 1) := by decide +kernel
theorem dX10_lapses_52 : decode cX10_lapses 52 = .ok (.invokevirtual 320, 3) := by decide +kernel
theorem dX10_lapses_55 : decode cX10_lapses 55 = .ok (.aload_n 0, 1) := by decide +kernel
theorem dX10_lapses_56 : decode cX10_lapses 56 = .ok (.getfield 348, 3) := by decide +kernel
theorem dX10_lapses_59 : decode cX10_lapses 59 = .ok (.iconst (-1), 1) := by decide +kernel
theorem dX10_lapses_60 : decode cX10_lapses 60 = .ok (.if_icmp .eq 4, 3) := by decide +kernel
theorem dX10_lapses_63 : decode cX10_lapses 63 = .ok (.return_, 1) := by decide +kernel
theorem dX10_lapses_64 : decode cX10_lapses 64 = .ok (.aload_n 0, 1) := by decide +kernel
theorem dX10_lapses_65 : decode cX10_lapses 65 = .ok (.iload_n 1, 1) := by decide +kernel
theorem dX10_lapses_66 : decode cX10_lapses 66 = .ok (.putfield 348, 3) := by decide +kernel
theorem dX10_lapses_69 : decode cX10_lapses 69 = .ok (.aload_n 0, 1) := by decide +kernel
theorem dX10_lapses_70 : decode cX10_lapses 70 = .ok (.aload_n 0, 1) := by decide +kernel
theorem dX10_lapses_71 : decode cX10_lapses 71 = .ok (.getfield 7, 3) := by decide +kernel
theorem dX10_lapses_74 : decode cX10_lapses 74 = .ok (.iconst 0, 1) := by decide +kernel
theorem dX10_lapses_75 : decode cX10_lapses 75 = .ok (.iaload, 1) := by decide +kernel
theorem dX10_lapses_76 : decode cX10_lapses 76 = .ok (.putfield 351, 3) := by decide +kernel
theorem dX10_lapses_79 : decode cX10_lapses 79 = .ok (.return_, 1) := by decide +kernel
theorem dX10_ages_0 : decode cX10_ages 0 = .ok (.iconst 0, 1) := by decide +kernel
theorem dX10_ages_1 : decode cX10_ages 1 = .ok (.istore_n 1, 1) := by decide +kernel
theorem dX10_ages_2 : decode cX10_ages 2 = .ok (.iconst 0, 1) := by decide +kernel
theorem dX10_ages_3 : decode cX10_ages 3 = .ok (.istore_n 2, 1) := by decide +kernel
theorem dX10_ages_4 : decode cX10_ages 4 = .ok (.iload_n 2, 1) := by decide +kernel
theorem dX10_ages_5 : decode cX10_ages 5 = .ok (.aload_n 0, 1) := by decide +kernel
theorem dX10_ages_6 : decode cX10_ages 6 = .ok (.getfield 7, 3) := by decide +kernel
theorem dX10_ages_9 : decode cX10_ages 9 = .ok (.bipush 62, 2) := by decide +kernel
theorem dX10_ages_11 : decode cX10_ages 11 = .ok (.iaload, 1) := by decide +kernel
theorem dX10_ages_12 : decode cX10_ages 12 = .ok (.if_icmp .ge 71, 3) := by decide +kernel
theorem dX10_ages_15 : decode cX10_ages 15 = .ok (.aload_n 0, 1) := by decide +kernel
theorem dX10_ages_16 : decode cX10_ages 16 = .ok (.iload_n 2, 1) := by decide +kernel
theorem dX10_ages_17 : decode cX10_ages 17 = .ok (.invokevirtual 314, 3) := by decide +kernel
theorem dX10_ages_20 : decode cX10_ages 20 = .ok (.ifCond .eq 6, 3) := by decide +kernel
theorem dX10_ages_23 : decode cX10_ages 23 = .ok (.goto 54, 3) := by decide +kernel
theorem dX10_ages_26 : decode cX10_ages 26 = .ok (.aload_n 0, 1) := by decide +kernel
theorem dX10_ages_27 : decode cX10_ages 27 = .ok (.getfield 7, 3) := by decide +kernel
theorem dX10_ages_30 : decode cX10_ages 30 = .ok (.iconst 4, 1) := by decide +kernel
theorem dX10_ages_31 : decode cX10_ages 31 = .ok (.iload_n 2, 1) := by decide +kernel
theorem dX10_ages_32 : decode cX10_ages 32 = .ok (.iadd, 1) := by decide +kernel
theorem dX10_ages_33 : decode cX10_ages 33 = .ok (.sipush 9999, 3) := by decide +kernel
theorem dX10_ages_36 : decode cX10_ages 36 = .ok (.aload_n 0, 1) := by decide +kernel
theorem dX10_ages_37 : decode cX10_ages 37 = .ok (.getfield 7, 3) := by decide +kernel
theorem dX10_ages_40 : decode cX10_ages 40 = .ok (.iconst 4, 1) := by decide +kernel
theorem dX10_ages_41 : decode cX10_ages 41 = .ok (.iload_n 2, 1) := by decide +kernel
theorem dX10_ages_42 : decode cX10_ages 42 = .ok (.iadd, 1) := by decide +kernel
theorem dX10_ages_43 : decode cX10_ages 43 = .ok (.iaload, 1) := by decide +kernel
theorem dX10_ages_44 : decode cX10_ages 44 = .ok (.iconst 1, 1) := by decide +kernel
theorem dX10_ages_45 : decode cX10_ages 45 = .ok (.iadd, 1) := by decide +kernel
theorem dX10_ages_46 : decode cX10_ages 46 = .ok (.invokestatic 300, 3) := by decide +kernel
theorem dX10_ages_49 : decode cX10_ages 49 = .ok (.iastore, 1) := by decide +kernel
theorem dX10_ages_50 : decode cX10_ages 50 = .ok (.aload_n 0, 1) := by decide +kernel
theorem dX10_ages_51 : decode cX10_ages 51 = .ok (.getfield 7, 3) := by decide +kernel
theorem dX10_ages_54 : decode cX10_ages 54 = .ok (.iconst 4, 1) := by decide +kernel
theorem dX10_ages_55 : decode cX10_ages 55 = .ok (.iload_n 2, 1) := by decide +kernel
theorem dX10_ages_56 : decode cX10_ages 56 = .ok (.iadd, 1) := by decide +kernel
theorem dX10_ages_57 : decode cX10_ages 57 = .ok (.iaload, 1) := by decide +kernel
theorem dX10_ages_58 : decode cX10_ages 58 = .ok (.aload_n 0, 1) := by decide +kernel
theorem dX10_ages_59 : decode cX10_ages 59 = .ok (.iload_n 2, 1) := by decide +kernel
theorem dX10_ages_60 : decode cX10_ages 60 = .ok (.invokevirtual 354, 3) := by decide +kernel
theorem dX10_ages_63 : decode cX10_ages 63 = .ok (.if_icmp .ge 6, 3) := by decide +kernel
theorem dX10_ages_66 : decode cX10_ages 66 = .ok (.goto 11, 3) := by decide +kernel
theorem dX10_ages_69 : decode cX10_ages 69 = .ok (.aload_n 0, 1) := by decide +kernel
theorem dX10_ages_70 : decode cX10_ages 70 = .ok (.iload_n 2, 1) := by decide +kernel
theorem dX10_ages_71 : decode cX10_ages 71 = .ok (.invokevirtual 357, 3) := by decide +kernel
theorem dX10_ages_74 : decode cX10_ages 74 = .ok (.iinc 1 1, 3) := by decide +kernel
theorem dX10_ages_77 : decode cX10_ages 77 = .ok (.iinc 2 1, 3) := by decide +kernel
theorem dX10_ages_80 : decode cX10_ages 80 = .ok (.goto (-76), 3) := by decide +kernel
theorem dX10_ages_83 : decode cX10_ages 83 = .ok (.iload_n 1, 1) := by decide +kernel
theorem dX10_ages_84 : decode cX10_ages 84 = .ok (.ireturn, 1) := by decide +kernel
theorem dX10_works_0 : decode cX10_works 0 = .ok (.iconst 0, 1) := by decide +kernel
theorem dX10_works_1 : decode cX10_works 1 = .ok (.istore_n 1, 1) := by decide +kernel
theorem dX10_works_2 : decode cX10_works 2 = .ok (.iload_n 1, 1) := by decide +kernel
theorem dX10_works_3 : decode cX10_works 3 = .ok (.aload_n 0, 1) := by decide +kernel
theorem dX10_works_4 : decode cX10_works 4 = .ok (.getfield 7, 3) := by decide +kernel
theorem dX10_works_7 : decode cX10_works 7 = .ok (.bipush 67, 2) := by decide +kernel
theorem dX10_works_9 : decode cX10_works 9 = .ok (.iaload, 1) := by decide +kernel
theorem dX10_works_10 : decode cX10_works 10 = .ok (.if_icmp .ge 41, 3) := by decide +kernel
theorem dX10_works_13 : decode cX10_works 13 = .ok (.aload_n 0, 1) := by decide +kernel
theorem dX10_works_14 : decode cX10_works 14 = .ok (.getfield 7, 3) := by decide +kernel
theorem dX10_works_17 : decode cX10_works 17 = .ok (.sipush 628, 3) := by decide +kernel
theorem dX10_works_20 : decode cX10_works 20 = .ok (.iconst 4, 1) := by decide +kernel
theorem dX10_works_21 : decode cX10_works 21 = .ok (.iload_n 1, 1) := by decide +kernel
theorem dX10_works_22 : decode cX10_works 22 = .ok (.imul, 1) := by decide +kernel
theorem dX10_works_23 : decode cX10_works 23 = .ok (.iadd, 1) := by decide +kernel
theorem dX10_works_24 : decode cX10_works 24 = .ok (.iaload, 1) := by decide +kernel
theorem dX10_works_25 : decode cX10_works 25 = .ok (.aload_n 0, 1) := by decide +kernel
theorem dX10_works_26 : decode cX10_works 26 = .ok (.getfield 7, 3) := by decide +kernel
theorem dX10_works_29 : decode cX10_works 29 = .ok (.iconst 0, 1) := by decide +kernel
theorem dX10_works_30 : decode cX10_works 30 = .ok (.iaload, 1) := by decide +kernel
theorem dX10_works_31 : decode cX10_works 31 = .ok (.if_icmp .ne 14, 3) := by decide +kernel
theorem dX10_works_34 : decode cX10_works 34 = .ok (.aload_n 0, 1) := by decide +kernel
theorem dX10_works_35 : decode cX10_works 35 = .ok (.sipush 628, 3) := by decide +kernel
theorem dX10_works_38 : decode cX10_works 38 = .ok (.iconst 4, 1) := by decide +kernel
theorem dX10_works_39 : decode cX10_works 39 = .ok (.iload_n 1, 1) := by decide +kernel
theorem dX10_works_40 : decode cX10_works 40 = .ok (.imul, 1) := by decide +kernel
theorem dX10_works_41 : decode cX10_works 41 = .ok (.iadd, 1) := by decide +kernel
theorem dX10_works_42 : decode cX10_works 42 = .ok (.invokevirtual 361, 3) := by decide +kernel
theorem dX10_works_45 : decode cX10_works 45 = .ok (.iinc 1 1, 3) := by decide +kernel
theorem dX10_works_48 : decode cX10_works 48 = .ok (.goto (-46), 3) := by decide +kernel
theorem dX10_works_51 : decode cX10_works 51 = .ok (.aload_n 0, 1) := by decide +kernel
theorem dX10_works_52 : decode cX10_works 52 = .ok (.getfield 310, 3) := by decide +kernel
theorem dX10_works_55 : decode cX10_works 55 = .ok (.ifCond .eq 7, 3) := by decide +kernel
theorem dX10_works_58 : decode cX10_works 58 = .ok (.aload_n 0, 1) := by decide +kernel
theorem dX10_works_59 : decode cX10_works 59 = .ok (.invokevirtual 364, 3) := by decide +kernel
theorem dX10_works_62 : decode cX10_works 62 = .ok (.aload_n 0, 1) := by decide +kernel
theorem dX10_works_63 : decode cX10_works 63 = .ok (.invokevirtual 367, 3) := by decide +kernel
theorem dX10_works_66 : decode cX10_works 66 = .ok (.ireturn, 1) := by decide +kernel
theorem dX10_ends_0 : decode cX10_ends 0 = .ok (.iconst 0, 1) := by decide +kernel
theorem dX10_ends_1 : decode cX10_ends 1 = .ok (.istore_n 1, 1) := by decide +kernel
theorem dX10_ends_2 : decode cX10_ends 2 = .ok (.iload_n 1, 1) := by decide +kernel
theorem dX10_ends_3 : decode cX10_ends 3 = .ok (.aload_n 0, 1) := by decide +kernel
theorem dX10_ends_4 : decode cX10_ends 4 = .ok (.getfield 7, 3) := by decide +kernel
theorem dX10_ends_7 : decode cX10_ends 7 = .ok (.bipush 63, 2) := by decide +kernel
theorem dX10_ends_9 : decode cX10_ends 9 = .ok (.iaload, 1) := by decide +kernel
theorem dX10_ends_10 : decode cX10_ends 10 = .ok (.if_icmp .ge 34, 3) := by decide +kernel
theorem dX10_ends_13 : decode cX10_ends 13 = .ok (.aload_n 0, 1) := by decide +kernel
theorem dX10_ends_14 : decode cX10_ends 14 = .ok (.getfield 7, 3) := by decide +kernel
theorem dX10_ends_17 : decode cX10_ends 17 = .ok (.bipush 52, 2) := by decide +kernel
theorem dX10_ends_19 : decode cX10_ends 19 = .ok (.iload_n 1, 1) := by decide +kernel
theorem dX10_ends_20 : decode cX10_ends 20 = .ok (.iadd, 1) := by decide +kernel
theorem dX10_ends_21 : decode cX10_ends 21 = .ok (.bipush 99, 2) := by decide +kernel
theorem dX10_ends_23 : decode cX10_ends 23 = .ok (.aload_n 0, 1) := by decide +kernel
theorem dX10_ends_24 : decode cX10_ends 24 = .ok (.getfield 7, 3) := by decide +kernel
theorem dX10_ends_27 : decode cX10_ends 27 = .ok (.bipush 52, 2) := by decide +kernel
theorem dX10_ends_29 : decode cX10_ends 29 = .ok (.iload_n 1, 1) := by decide +kernel
theorem dX10_ends_30 : decode cX10_ends 30 = .ok (.iadd, 1) := by decide +kernel
theorem dX10_ends_31 : decode cX10_ends 31 = .ok (.iaload, 1) := by decide +kernel
theorem dX10_ends_32 : decode cX10_ends 32 = .ok (.iconst 5, 1) := by decide +kernel
theorem dX10_ends_33 : decode cX10_ends 33 = .ok (.iadd, 1) := by decide +kernel
theorem dX10_ends_34 : decode cX10_ends 34 = .ok (.invokestatic 300, 3) := by decide +kernel
theorem dX10_ends_37 : decode cX10_ends 37 = .ok (.iastore, 1) := by decide +kernel
theorem dX10_ends_38 : decode cX10_ends 38 = .ok (.iinc 1 1, 3) := by decide +kernel
theorem dX10_ends_41 : decode cX10_ends 41 = .ok (.goto (-39), 3) := by decide +kernel
theorem dX10_ends_44 : decode cX10_ends 44 = .ok (.aload_n 0, 1) := by decide +kernel
theorem dX10_ends_45 : decode cX10_ends 45 = .ok (.getfield 7, 3) := by decide +kernel
theorem dX10_ends_48 : decode cX10_ends 48 = .ok (.iconst 0, 1) := by decide +kernel
theorem dX10_ends_49 : decode cX10_ends 49 = .ok (.dup2, 1) := by decide +kernel
theorem dX10_ends_50 : decode cX10_ends 50 = .ok (.iaload, 1) := by decide +kernel
theorem dX10_ends_51 : decode cX10_ends 51 = .ok (.iconst 1, 1) := by decide +kernel
theorem dX10_ends_52 : decode cX10_ends 52 = .ok (.iadd, 1) := by decide +kernel
theorem dX10_ends_53 : decode cX10_ends 53 = .ok (.iastore, 1) := by decide +kernel
theorem dX10_ends_54 : decode cX10_ends 54 = .ok (.return_, 1) := by decide +kernel
theorem dX10_days_0 : decode cX10_days 0 = .ok (.iload_n 1, 1) := by decide +kernel
theorem dX10_days_1 : decode cX10_days 1 = .ok (.iconst 1, 1) := by decide +kernel
theorem dX10_days_2 : decode cX10_days 2 = .ok (.bipush 60, 2) := by decide +kernel
theorem dX10_days_4 : decode cX10_days 4 = .ok (.invokestatic 59, 3) := by decide +kernel
theorem dX10_days_7 : decode cX10_days 7 = .ok (.ifCond .eq 17, 3) := by decide +kernel
theorem dX10_days_10 : decode cX10_days 10 = .ok (.aload_n 0, 1) := by decide +kernel
theorem dX10_days_11 : decode cX10_days 11 = .ok (.getfield 7, 3) := by decide +kernel
theorem dX10_days_14 : decode cX10_days 14 = .ok (.iconst 0, 1) := by decide +kernel
theorem dX10_days_15 : decode cX10_days 15 = .ok (.iaload, 1) := by decide +kernel
theorem dX10_days_16 : decode cX10_days 16 = .ok (.iload_n 1, 1) := by decide +kernel
theorem dX10_days_17 : decode cX10_days 17 = .ok (.iadd, 1) := by decide +kernel
theorem dX10_days_18 : decode cX10_days 18 = .ok (.sipush 9999, 3) := by decide +kernel
theorem dX10_days_21 : decode cX10_days 21 = .ok (.if_icmp .le 5, 3) := by decide +kernel
theorem dX10_days_24 : decode cX10_days 24 = .ok (.iconst (-1), 1) := by decide +kernel
theorem dX10_days_25 : decode cX10_days 25 = .ok (.ireturn, 1) := by decide +kernel
theorem dX10_days_26 : decode cX10_days 26 = .ok (.iconst 0, 1) := by decide +kernel
theorem dX10_days_27 : decode cX10_days 27 = .ok (.istore_n 2, 1) := by decide +kernel
theorem dX10_days_28 : decode cX10_days 28 = .ok (.iconst 0, 1) := by decide +kernel
theorem dX10_days_29 : decode cX10_days 29 = .ok (.istore_n 3, 1) := by decide +kernel
theorem dX10_days_30 : decode cX10_days 30 = .ok (.iload_n 3, 1) := by decide +kernel
theorem dX10_days_31 : decode cX10_days 31 = .ok (.iload_n 1, 1) := by decide +kernel
theorem dX10_days_32 : decode cX10_days 32 = .ok (.if_icmp .ge 24, 3) := by decide +kernel
theorem dX10_days_35 : decode cX10_days 35 = .ok (.aload_n 0, 1) := by decide +kernel
theorem dX10_days_36 : decode cX10_days 36 = .ok (.invokevirtual 333, 3) := by decide +kernel
theorem dX10_days_39 : decode cX10_days 39 = .ok (.iload_n 2, 1) := by decide +kernel
theorem dX10_days_40 : decode cX10_days 40 = .ok (.aload_n 0, 1) := by decide +kernel
theorem dX10_days_41 : decode cX10_days 41 = .ok (.invokevirtual 370, 3) := by decide +kernel
theorem dX10_days_44 : decode cX10_days 44 = .ok (.iadd, 1) := by decide +kernel
theorem dX10_days_45 : decode cX10_days 45 = .ok (.istore_n 2, 1) := by decide +kernel
theorem dX10_days_46 : decode cX10_days 46 = .ok (.aload_n 0, 1) := by decide +kernel
theorem dX10_days_47 : decode cX10_days 47 = .ok (.invokevirtual 373, 3) := by decide +kernel
theorem dX10_days_50 : decode cX10_days 50 = .ok (.iinc 3 1, 3) := by decide +kernel
theorem dX10_days_53 : decode cX10_days 53 = .ok (.goto (-23), 3) := by decide +kernel
theorem dX10_days_56 : decode cX10_days 56 = .ok (.iload_n 2, 1) := by decide +kernel
theorem dX10_days_57 : decode cX10_days 57 = .ok (.ireturn, 1) := by decide +kernel
theorem dX10_of_0 : decode cX10_of 0 = .ok (.aload_n 0, 1) := by decide +kernel
theorem dX10_of_1 : decode cX10_of 1 = .ok (.iload_n 1, 1) := by decide +kernel
theorem dX10_of_2 : decode cX10_of 2 = .ok (.invokevirtual 78, 3) := by decide +kernel
theorem dX10_of_5 : decode cX10_of 5 = .ok (.ifCond .ne 5, 3) := by decide +kernel
theorem dX10_of_8 : decode cX10_of 8 = .ok (.iconst (-1), 1) := by decide +kernel
theorem dX10_of_9 : decode cX10_of 9 = .ok (.ireturn, 1) := by decide +kernel
theorem dX10_of_10 : decode cX10_of 10 = .ok (.iload_n 2, 1) := by decide +kernel
theorem dX10_of_11 : decode cX10_of 11 = .ok (.tableswitch 106 0 6 #[41, 51, 60, 74, 84, 94, 100], 41) := by decide +kernel
theorem dX10_of_52 : decode cX10_of 52 = .ok (.aload_n 0, 1) := by decide +kernel
theorem dX10_of_53 : decode cX10_of 53 = .ok (.getfield 7, 3) := by decide +kernel
theorem dX10_of_56 : decode cX10_of 56 = .ok (.bipush 70, 2) := by decide +kernel
theorem dX10_of_58 : decode cX10_of 58 = .ok (.iload_n 1, 1) := by decide +kernel
theorem dX10_of_59 : decode cX10_of 59 = .ok (.iadd, 1) := by decide +kernel
theorem dX10_of_60 : decode cX10_of 60 = .ok (.iaload, 1) := by decide +kernel
theorem dX10_of_61 : decode cX10_of 61 = .ok (.ireturn, 1) := by decide +kernel
theorem dX10_of_62 : decode cX10_of 62 = .ok (.aload_n 0, 1) := by decide +kernel
theorem dX10_of_63 : decode cX10_of 63 = .ok (.getfield 7, 3) := by decide +kernel
theorem dX10_of_66 : decode cX10_of 66 = .ok (.iconst 4, 1) := by decide +kernel
theorem dX10_of_67 : decode cX10_of 67 = .ok (.iload_n 1, 1) := by decide +kernel
theorem dX10_of_68 : decode cX10_of 68 = .ok (.iadd, 1) := by decide +kernel
theorem dX10_of_69 : decode cX10_of 69 = .ok (.iaload, 1) := by decide +kernel
theorem dX10_of_70 : decode cX10_of 70 = .ok (.ireturn, 1) := by decide +kernel
theorem dX10_of_71 : decode cX10_of 71 = .ok (.aload_n 0, 1) := by decide +kernel
theorem dX10_of_72 : decode cX10_of 72 = .ok (.iload_n 1, 1) := by decide +kernel
theorem dX10_of_73 : decode cX10_of 73 = .ok (.invokevirtual 314, 3) := by decide +kernel
theorem dX10_of_76 : decode cX10_of 76 = .ok (.ifCond .eq 7, 3) := by decide +kernel
theorem dX10_of_79 : decode cX10_of 79 = .ok (.iconst 1, 1) := by decide +kernel
theorem dX10_of_80 : decode cX10_of 80 = .ok (.goto 4, 3) := by decide +kernel
theorem dX10_of_83 : decode cX10_of 83 = .ok (.iconst 0, 1) := by decide +kernel
theorem dX10_of_84 : decode cX10_of 84 = .ok (.ireturn, 1) := by decide +kernel
theorem dX10_of_85 : decode cX10_of 85 = .ok (.aload_n 0, 1) := by decide +kernel
theorem dX10_of_86 : decode cX10_of 86 = .ok (.getfield 7, 3) := by decide +kernel
theorem dX10_of_89 : decode cX10_of 89 = .ok (.bipush 18, 2) := by decide +kernel
theorem dX10_of_91 : decode cX10_of 91 = .ok (.iload_n 1, 1) := by decide +kernel
theorem dX10_of_92 : decode cX10_of 92 = .ok (.iadd, 1) := by decide +kernel
theorem dX10_of_93 : decode cX10_of 93 = .ok (.iaload, 1) := by decide +kernel
theorem dX10_of_94 : decode cX10_of 94 = .ok (.ireturn, 1) := by decide +kernel
theorem dX10_of_95 : decode cX10_of 95 = .ok (.aload_n 0, 1) := by decide +kernel
theorem dX10_of_96 : decode cX10_of 96 = .ok (.getfield 7, 3) := by decide +kernel
theorem dX10_of_99 : decode cX10_of 99 = .ok (.bipush 84, 2) := by decide +kernel
theorem dX10_of_101 : decode cX10_of 101 = .ok (.iload_n 1, 1) := by decide +kernel
theorem dX10_of_102 : decode cX10_of 102 = .ok (.iadd, 1) := by decide +kernel
theorem dX10_of_103 : decode cX10_of 103 = .ok (.iaload, 1) := by decide +kernel
theorem dX10_of_104 : decode cX10_of 104 = .ok (.ireturn, 1) := by decide +kernel
theorem dX10_of_105 : decode cX10_of 105 = .ok (.aload_n 0, 1) := by decide +kernel
theorem dX10_of_106 : decode cX10_of 106 = .ok (.iload_n 1, 1) := by decide +kernel
theorem dX10_of_107 : decode cX10_of 107 = .ok (.invokevirtual 354, 3) := by decide +kernel
theorem dX10_of_110 : decode cX10_of 110 = .ok (.ireturn, 1) := by decide +kernel
theorem dX10_of_111 : decode cX10_of 111 = .ok (.aload_n 0, 1) := by decide +kernel
theorem dX10_of_112 : decode cX10_of 112 = .ok (.iload_n 1, 1) := by decide +kernel
theorem dX10_of_113 : decode cX10_of 113 = .ok (.invokevirtual 294, 3) := by decide +kernel
theorem dX10_of_116 : decode cX10_of 116 = .ok (.ireturn, 1) := by decide +kernel
theorem dX10_of_117 : decode cX10_of 117 = .ok (.iconst (-1), 1) := by decide +kernel
theorem dX10_of_118 : decode cX10_of 118 = .ok (.ireturn, 1) := by decide +kernel
theorem dX10_who_0 : decode cX10_who 0 = .ok (.aload_n 0, 1) := by decide +kernel
theorem dX10_who_1 : decode cX10_who 1 = .ok (.iload_n 1, 1) := by decide +kernel
theorem dX10_who_2 : decode cX10_who 2 = .ok (.invokevirtual 75, 3) := by decide +kernel
theorem dX10_who_5 : decode cX10_who 5 = .ok (.ifCond .ne 5, 3) := by decide +kernel
theorem dX10_who_8 : decode cX10_who 8 = .ok (.iconst (-1), 1) := by decide +kernel
theorem dX10_who_9 : decode cX10_who 9 = .ok (.ireturn, 1) := by decide +kernel
theorem dX10_who_10 : decode cX10_who 10 = .ok (.iload_n 2, 1) := by decide +kernel
theorem dX10_who_11 : decode cX10_who 11 = .ok (.ifCond .ne 15, 3) := by decide +kernel
theorem dX10_who_14 : decode cX10_who 14 = .ok (.aload_n 0, 1) := by decide +kernel
theorem dX10_who_15 : decode cX10_who 15 = .ok (.getfield 7, 3) := by decide +kernel
theorem dX10_who_18 : decode cX10_who 18 = .ok (.bipush 32, 2) := by decide +kernel
theorem dX10_who_20 : decode cX10_who 20 = .ok (.iload_n 1, 1) := by decide +kernel
theorem dX10_who_21 : decode cX10_who 21 = .ok (.iadd, 1) := by decide +kernel
theorem dX10_who_22 : decode cX10_who 22 = .ok (.iaload, 1) := by decide +kernel
theorem dX10_who_23 : decode cX10_who 23 = .ok (.goto 38, 3) := by decide +kernel
theorem dX10_who_26 : decode cX10_who 26 = .ok (.iload_n 2, 1) := by decide +kernel
theorem dX10_who_27 : decode cX10_who 27 = .ok (.iconst 1, 1) := by decide +kernel
theorem dX10_who_28 : decode cX10_who 28 = .ok (.if_icmp .ne 15, 3) := by decide +kernel
theorem dX10_who_31 : decode cX10_who 31 = .ok (.aload_n 0, 1) := by decide +kernel
theorem dX10_who_32 : decode cX10_who 32 = .ok (.getfield 7, 3) := by decide +kernel
theorem dX10_who_35 : decode cX10_who 35 = .ok (.bipush 42, 2) := by decide +kernel
theorem dX10_who_37 : decode cX10_who 37 = .ok (.iload_n 1, 1) := by decide +kernel
theorem dX10_who_38 : decode cX10_who 38 = .ok (.iadd, 1) := by decide +kernel
theorem dX10_who_39 : decode cX10_who 39 = .ok (.iaload, 1) := by decide +kernel
theorem dX10_who_40 : decode cX10_who 40 = .ok (.goto 21, 3) := by decide +kernel
theorem dX10_who_43 : decode cX10_who 43 = .ok (.iload_n 2, 1) := by decide +kernel
theorem dX10_who_44 : decode cX10_who 44 = .ok (.iconst 2, 1) := by decide +kernel
theorem dX10_who_45 : decode cX10_who 45 = .ok (.if_icmp .ne 15, 3) := by decide +kernel
theorem dX10_who_48 : decode cX10_who 48 = .ok (.aload_n 0, 1) := by decide +kernel
theorem dX10_who_49 : decode cX10_who 49 = .ok (.getfield 7, 3) := by decide +kernel
theorem dX10_who_52 : decode cX10_who 52 = .ok (.bipush 52, 2) := by decide +kernel
theorem dX10_who_54 : decode cX10_who 54 = .ok (.iload_n 1, 1) := by decide +kernel
theorem dX10_who_55 : decode cX10_who 55 = .ok (.iadd, 1) := by decide +kernel
theorem dX10_who_56 : decode cX10_who 56 = .ok (.iaload, 1) := by decide +kernel
theorem dX10_who_57 : decode cX10_who 57 = .ok (.goto 4, 3) := by decide +kernel
theorem dX10_who_60 : decode cX10_who 60 = .ok (.iconst (-1), 1) := by decide +kernel
theorem dX10_who_61 : decode cX10_who 61 = .ok (.ireturn, 1) := by decide +kernel
theorem dX10_asks_0 : decode cX10_asks 0 = .ok (.aload_n 0, 1) := by decide +kernel
theorem dX10_asks_1 : decode cX10_asks 1 = .ok (.iload_n 1, 1) := by decide +kernel
theorem dX10_asks_2 : decode cX10_asks 2 = .ok (.invokevirtual 78, 3) := by decide +kernel
theorem dX10_asks_5 : decode cX10_asks 5 = .ok (.ifCond .eq 10, 3) := by decide +kernel
theorem dX10_asks_8 : decode cX10_asks 8 = .ok (.iload_n 2, 1) := by decide +kernel
theorem dX10_asks_9 : decode cX10_asks 9 = .ok (.invokestatic 71, 3) := by decide +kernel
theorem dX10_asks_12 : decode cX10_asks 12 = .ok (.ifCond .ne 5, 3) := by decide +kernel
theorem dX10_asks_15 : decode cX10_asks 15 = .ok (.iconst (-1), 1) := by decide +kernel
theorem dX10_asks_16 : decode cX10_asks 16 = .ok (.ireturn, 1) := by decide +kernel
theorem dX10_asks_17 : decode cX10_asks 17 = .ok (.iload_n 3, 1) := by decide +kernel
theorem dX10_asks_18 : decode cX10_asks 18 = .ok (.ifCond .eq 12, 3) := by decide +kernel
theorem dX10_asks_21 : decode cX10_asks 21 = .ok (.aload_n 0, 1) := by decide +kernel
theorem dX10_asks_22 : decode cX10_asks 22 = .ok (.iload_n 1, 1) := by decide +kernel
theorem dX10_asks_23 : decode cX10_asks 23 = .ok (.iload_n 2, 1) := by decide +kernel
theorem dX10_asks_24 : decode cX10_asks 24 = .ok (.invokevirtual 317, 3) := by decide +kernel
theorem dX10_asks_27 : decode cX10_asks 27 = .ok (.goto 9, 3) := by decide +kernel
theorem dX10_asks_30 : decode cX10_asks 30 = .ok (.aload_n 0, 1) := by decide +kernel
theorem dX10_asks_31 : decode cX10_asks 31 = .ok (.iload_n 1, 1) := by decide +kernel
theorem dX10_asks_32 : decode cX10_asks 32 = .ok (.iload_n 2, 1) := by decide +kernel
theorem dX10_asks_33 : decode cX10_asks 33 = .ok (.invokevirtual 324, 3) := by decide +kernel
theorem dX10_asks_36 : decode cX10_asks 36 = .ok (.ireturn, 1) := by decide +kernel
theorem dX10_book_0 : decode cX10_book 0 = .ok (.iload_n 1, 1) := by decide +kernel
theorem dX10_book_1 : decode cX10_book 1 = .ok (.iconst 0, 1) := by decide +kernel
theorem dX10_book_2 : decode cX10_book 2 = .ok (.aload_n 0, 1) := by decide +kernel
theorem dX10_book_3 : decode cX10_book 3 = .ok (.getfield 7, 3) := by decide +kernel
theorem dX10_book_6 : decode cX10_book 6 = .ok (.iconst 2, 1) := by decide +kernel
theorem dX10_book_7 : decode cX10_book 7 = .ok (.iaload, 1) := by decide +kernel
theorem dX10_book_8 : decode cX10_book 8 = .ok (.iconst 1, 1) := by decide +kernel
theorem dX10_book_9 : decode cX10_book 9 = .ok (.isub, 1) := by decide +kernel
theorem dX10_book_10 : decode cX10_book 10 = .ok (.invokestatic 59, 3) := by decide +kernel
theorem dX10_book_13 : decode cX10_book 13 = .ok (.ifCond .eq 29, 3) := by decide +kernel
theorem dX10_book_16 : decode cX10_book 16 = .ok (.iload_n 2, 1) := by decide +kernel
theorem dX10_book_17 : decode cX10_book 17 = .ok (.iconst 0, 1) := by decide +kernel
theorem dX10_book_18 : decode cX10_book 18 = .ok (.iconst 3, 1) := by decide +kernel
theorem dX10_book_19 : decode cX10_book 19 = .ok (.invokestatic 59, 3) := by decide +kernel
theorem dX10_book_22 : decode cX10_book 22 = .ok (.ifCond .eq 20, 3) := by decide +kernel
theorem dX10_book_25 : decode cX10_book 25 = .ok (.aload_n 0, 1) := by decide +kernel
theorem dX10_book_26 : decode cX10_book 26 = .ok (.getfield 7, 3) := by decide +kernel
theorem dX10_book_29 : decode cX10_book 29 = .ok (.sipush 748, 3) := by decide +kernel
theorem dX10_book_32 : decode cX10_book 32 = .ok (.iconst 4, 1) := by decide +kernel
theorem dX10_book_33 : decode cX10_book 33 = .ok (.iload_n 1, 1) := by decide +kernel
theorem dX10_book_34 : decode cX10_book 34 = .ok (.imul, 1) := by decide +kernel
theorem dX10_book_35 : decode cX10_book 35 = .ok (.iadd, 1) := by decide +kernel
theorem dX10_book_36 : decode cX10_book 36 = .ok (.iload_n 2, 1) := by decide +kernel
theorem dX10_book_37 : decode cX10_book 37 = .ok (.iadd, 1) := by decide +kernel
theorem dX10_book_38 : decode cX10_book 38 = .ok (.iaload, 1) := by decide +kernel
theorem dX10_book_39 : decode cX10_book 39 = .ok (.goto 5, 3) := by decide +kernel
theorem dX10_book_42 : decode cX10_book 42 = .ok (.bipush (-2), 2) := by decide +kernel
theorem dX10_book_44 : decode cX10_book 44 = .ok (.ireturn, 1) := by decide +kernel
theorem dX10_wordsOf_0 : decode cX10_wordsOf 0 = .ok (.sipush 208, 3) := by decide +kernel
theorem dX10_wordsOf_3 : decode cX10_wordsOf 3 = .ok (.bipush 42, 2) := by decide +kernel
theorem dX10_wordsOf_5 : decode cX10_wordsOf 5 = .ok (.iload_n 1, 1) := by decide +kernel
theorem dX10_wordsOf_6 : decode cX10_wordsOf 6 = .ok (.imul, 1) := by decide +kernel
theorem dX10_wordsOf_7 : decode cX10_wordsOf 7 = .ok (.iadd, 1) := by decide +kernel
theorem dX10_wordsOf_8 : decode cX10_wordsOf 8 = .ok (.bipush 7, 2) := by decide +kernel
theorem dX10_wordsOf_10 : decode cX10_wordsOf 10 = .ok (.iload_n 2, 1) := by decide +kernel
theorem dX10_wordsOf_11 : decode cX10_wordsOf 11 = .ok (.imul, 1) := by decide +kernel
theorem dX10_wordsOf_12 : decode cX10_wordsOf 12 = .ok (.iadd, 1) := by decide +kernel
theorem dX10_wordsOf_13 : decode cX10_wordsOf 13 = .ok (.istore_n 3, 1) := by decide +kernel
theorem dX10_wordsOf_14 : decode cX10_wordsOf 14 = .ok (.iconst 0, 1) := by decide +kernel
theorem dX10_wordsOf_15 : decode cX10_wordsOf 15 = .ok (.istore 4, 2) := by decide +kernel
theorem dX10_wordsOf_17 : decode cX10_wordsOf 17 = .ok (.iconst 1, 1) := by decide +kernel
theorem dX10_wordsOf_18 : decode cX10_wordsOf 18 = .ok (.istore 5, 2) := by decide +kernel
theorem dX10_wordsOf_20 : decode cX10_wordsOf 20 = .ok (.iload 5, 2) := by decide +kernel
theorem dX10_wordsOf_22 : decode cX10_wordsOf 22 = .ok (.aload_n 0, 1) := by decide +kernel
theorem dX10_wordsOf_23 : decode cX10_wordsOf 23 = .ok (.getfield 7, 3) := by decide +kernel
theorem dX10_wordsOf_26 : decode cX10_wordsOf 26 = .ok (.iload_n 3, 1) := by decide +kernel
theorem dX10_wordsOf_27 : decode cX10_wordsOf 27 = .ok (.iaload, 1) := by decide +kernel
theorem dX10_wordsOf_28 : decode cX10_wordsOf 28 = .ok (.if_icmp .gt 25, 3) := by decide +kernel
theorem dX10_wordsOf_31 : decode cX10_wordsOf 31 = .ok (.iload 4, 2) := by decide +kernel
theorem dX10_wordsOf_33 : decode cX10_wordsOf 33 = .ok (.iconst 1, 1) := by decide +kernel
theorem dX10_wordsOf_34 : decode cX10_wordsOf 34 = .ok (.aload_n 0, 1) := by decide +kernel
theorem dX10_wordsOf_35 : decode cX10_wordsOf 35 = .ok (.getfield 7, 3) := by decide +kernel
theorem dX10_wordsOf_38 : decode cX10_wordsOf 38 = .ok (.iload_n 3, 1) := by decide +kernel
theorem dX10_wordsOf_39 : decode cX10_wordsOf 39 = .ok (.iload 5, 2) := by decide +kernel
theorem dX10_wordsOf_41 : decode cX10_wordsOf 41 = .ok (.iadd, 1) := by decide +kernel
theorem dX10_wordsOf_42 : decode cX10_wordsOf 42 = .ok (.iaload, 1) := by decide +kernel
theorem dX10_wordsOf_43 : decode cX10_wordsOf 43 = .ok (.ishl, 1) := by decide +kernel
theorem dX10_wordsOf_44 : decode cX10_wordsOf 44 = .ok (.ior, 1) := by decide +kernel
theorem dX10_wordsOf_45 : decode cX10_wordsOf 45 = .ok (.istore 4, 2) := by decide +kernel
theorem dX10_wordsOf_47 : decode cX10_wordsOf 47 = .ok (.iinc 5 1, 3) := by decide +kernel
theorem dX10_wordsOf_50 : decode cX10_wordsOf 50 = .ok (.goto (-30), 3) := by decide +kernel
theorem dX10_wordsOf_53 : decode cX10_wordsOf 53 = .ok (.iload 4, 2) := by decide +kernel
theorem dX10_wordsOf_55 : decode cX10_wordsOf 55 = .ok (.ireturn, 1) := by decide +kernel
theorem dX10_longOf_0 : decode cX10_longOf 0 = .ok (.sipush 208, 3) := by decide +kernel
theorem dX10_longOf_3 : decode cX10_longOf 3 = .ok (.bipush 42, 2) := by decide +kernel
theorem dX10_longOf_5 : decode cX10_longOf 5 = .ok (.iload_n 1, 1) := by decide +kernel
theorem dX10_longOf_6 : decode cX10_longOf 6 = .ok (.imul, 1) := by decide +kernel
