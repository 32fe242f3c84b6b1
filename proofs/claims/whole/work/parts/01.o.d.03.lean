theorem dX9_text_37 : decode cX9_text 37 = .ok (.ifCond .ne 34, 3) := by decide +kernel
theorem dX9_text_40 : decode cX9_text 40 = .ok (.aload_n 0, 1) := by decide +kernel
theorem dX9_text_41 : decode cX9_text 41 = .ok (.getfield 12, 3) := by decide +kernel
theorem dX9_text_44 : decode cX9_text 44 = .ok (.getfield 157, 3) := by decide +kernel
theorem dX9_text_47 : decode cX9_text 47 = .ok (.aload_n 0, 1) := by decide +kernel
theorem dX9_text_48 : decode cX9_text 48 = .ok (.getfield 19, 3) := by decide +kernel
theorem dX9_text_51 : decode cX9_text 51 = .ok (.getfield 157, 3) := by decide +kernel
theorem dX9_text_54 : decode cX9_text 54 = .ok (.invokevirtual 161, 3) := by decide +kernel
theorem dX9_text_57 : decode cX9_text 57 = .ok (.aload_n 0, 1) := by decide +kernel
theorem dX9_text_58 : decode cX9_text 58 = .ok (.getfield 12, 3) := by decide +kernel
theorem dX9_text_61 : decode cX9_text 61 = .ok (.getfield 167, 3) := by decide +kernel
theorem dX9_text_64 : decode cX9_text 64 = .ok (.iconst 0, 1) := by decide +kernel
theorem dX9_text_65 : decode cX9_text 65 = .ok (.putfield 171, 3) := by decide +kernel
theorem dX9_text_68 : decode cX9_text 68 = .ok (.goto 77, 3) := by decide +kernel
theorem dX9_text_71 : decode cX9_text 71 = .ok (.iload_n 1, 1) := by decide +kernel
theorem dX9_text_72 : decode cX9_text 72 = .ok (.iconst 1, 1) := by decide +kernel
theorem dX9_text_73 : decode cX9_text 73 = .ok (.if_icmp .ne 23, 3) := by decide +kernel
theorem dX9_text_76 : decode cX9_text 76 = .ok (.aload_n 0, 1) := by decide +kernel
theorem dX9_text_77 : decode cX9_text 77 = .ok (.getfield 12, 3) := by decide +kernel
theorem dX9_text_80 : decode cX9_text 80 = .ok (.getfield 176, 3) := by decide +kernel
theorem dX9_text_83 : decode cX9_text 83 = .ok (.aload_n 0, 1) := by decide +kernel
theorem dX9_text_84 : decode cX9_text 84 = .ok (.getfield 19, 3) := by decide +kernel
theorem dX9_text_87 : decode cX9_text 87 = .ok (.getfield 176, 3) := by decide +kernel
theorem dX9_text_90 : decode cX9_text 90 = .ok (.invokevirtual 180, 3) := by decide +kernel
theorem dX9_text_93 : decode cX9_text 93 = .ok (.goto 52, 3) := by decide +kernel
theorem dX9_text_96 : decode cX9_text 96 = .ok (.iload_n 1, 1) := by decide +kernel
theorem dX9_text_97 : decode cX9_text 97 = .ok (.iconst 2, 1) := by decide +kernel
theorem dX9_text_98 : decode cX9_text 98 = .ok (.if_icmp .ne 30, 3) := by decide +kernel
theorem dX9_text_101 : decode cX9_text 101 = .ok (.aload_n 0, 1) := by decide +kernel
theorem dX9_text_102 : decode cX9_text 102 = .ok (.getfield 12, 3) := by decide +kernel
theorem dX9_text_105 : decode cX9_text 105 = .ok (.getfield 185, 3) := by decide +kernel
theorem dX9_text_108 : decode cX9_text 108 = .ok (.aload_n 0, 1) := by decide +kernel
theorem dX9_text_109 : decode cX9_text 109 = .ok (.getfield 19, 3) := by decide +kernel
theorem dX9_text_112 : decode cX9_text 112 = .ok (.getfield 185, 3) := by decide +kernel
theorem dX9_text_115 : decode cX9_text 115 = .ok (.invokevirtual 188, 3) := by decide +kernel
theorem dX9_text_118 : decode cX9_text 118 = .ok (.aload_n 0, 1) := by decide +kernel
theorem dX9_text_119 : decode cX9_text 119 = .ok (.getfield 25, 3) := by decide +kernel
theorem dX9_text_122 : decode cX9_text 122 = .ok (.invokevirtual 57, 3) := by decide +kernel
theorem dX9_text_125 : decode cX9_text 125 = .ok (.goto 20, 3) := by decide +kernel
theorem dX9_text_128 : decode cX9_text 128 = .ok (.aload_n 0, 1) := by decide +kernel
theorem dX9_text_129 : decode cX9_text 129 = .ok (.getfield 12, 3) := by decide +kernel
theorem dX9_text_132 : decode cX9_text 132 = .ok (.getfield 167, 3) := by decide +kernel
theorem dX9_text_135 : decode cX9_text 135 = .ok (.aload_n 0, 1) := by decide +kernel
theorem dX9_text_136 : decode cX9_text 136 = .ok (.getfield 19, 3) := by decide +kernel
theorem dX9_text_139 : decode cX9_text 139 = .ok (.getfield 167, 3) := by decide +kernel
theorem dX9_text_142 : decode cX9_text 142 = .ok (.invokevirtual 188, 3) := by decide +kernel
theorem dX9_text_145 : decode cX9_text 145 = .ok (.iload_n 2, 1) := by decide +kernel
theorem dX9_text_146 : decode cX9_text 146 = .ok (.ireturn, 1) := by decide +kernel
theorem dX9_fault_0 : decode cX9_fault 0 = .ok (.iload_n 1, 1) := by decide +kernel
theorem dX9_fault_1 : decode cX9_fault 1 = .ok (.ifCond .ne 11, 3) := by decide +kernel
theorem dX9_fault_4 : decode cX9_fault 4 = .ok (.aload_n 0, 1) := by decide +kernel
theorem dX9_fault_5 : decode cX9_fault 5 = .ok (.getfield 39, 3) := by decide +kernel
theorem dX9_fault_8 : decode cX9_fault 8 = .ok (.getfield 191, 3) := by decide +kernel
theorem dX9_fault_11 : decode cX9_fault 11 = .ok (.ireturn, 1) := by decide +kernel
theorem dX9_fault_12 : decode cX9_fault 12 = .ok (.iload_n 1, 1) := by decide +kernel
theorem dX9_fault_13 : decode cX9_fault 13 = .ok (.iconst 1, 1) := by decide +kernel
theorem dX9_fault_14 : decode cX9_fault 14 = .ok (.if_icmp .ne 13, 3) := by decide +kernel
theorem dX9_fault_17 : decode cX9_fault 17 = .ok (.aload_n 0, 1) := by decide +kernel
theorem dX9_fault_18 : decode cX9_fault 18 = .ok (.getfield 39, 3) := by decide +kernel
theorem dX9_fault_21 : decode cX9_fault 21 = .ok (.getfield 194, 3) := by decide +kernel
theorem dX9_fault_24 : decode cX9_fault 24 = .ok (.goto 4, 3) := by decide +kernel
theorem dX9_fault_27 : decode cX9_fault 27 = .ok (.iconst (-1), 1) := by decide +kernel
theorem dX9_fault_28 : decode cX9_fault 28 = .ok (.ireturn, 1) := by decide +kernel
theorem dX9_of_0 : decode cX9_of 0 = .ok (.aload_n 0, 1) := by decide +kernel
theorem dX9_of_1 : decode cX9_of 1 = .ok (.getfield 12, 3) := by decide +kernel
theorem dX9_of_4 : decode cX9_of 4 = .ok (.iload_n 1, 1) := by decide +kernel
theorem dX9_of_5 : decode cX9_of 5 = .ok (.invokevirtual 91, 3) := by decide +kernel
theorem dX9_of_8 : decode cX9_of 8 = .ok (.ifCond .ne 5, 3) := by decide +kernel
theorem dX9_of_11 : decode cX9_of 11 = .ok (.iconst (-1), 1) := by decide +kernel
theorem dX9_of_12 : decode cX9_of 12 = .ok (.ireturn, 1) := by decide +kernel
theorem dX9_of_13 : decode cX9_of 13 = .ok (.iload_n 2, 1) := by decide +kernel
theorem dX9_of_14 : decode cX9_of 14 = .ok (.tableswitch 126 0 6 #[42, 52, 65, 82, 95, 105, 117], 42) := by decide +kernel
theorem dX9_of_56 : decode cX9_of 56 = .ok (.aload_n 0, 1) := by decide +kernel
theorem dX9_of_57 : decode cX9_of 57 = .ok (.getfield 12, 3) := by decide +kernel
theorem dX9_of_60 : decode cX9_of 60 = .ok (.getfield 197, 3) := by decide +kernel
theorem dX9_of_63 : decode cX9_of 63 = .ok (.iload_n 1, 1) := by decide +kernel
theorem dX9_of_64 : decode cX9_of 64 = .ok (.iaload, 1) := by decide +kernel
theorem dX9_of_65 : decode cX9_of 65 = .ok (.ireturn, 1) := by decide +kernel
theorem dX9_of_66 : decode cX9_of 66 = .ok (.aload_n 0, 1) := by decide +kernel
theorem dX9_of_67 : decode cX9_of 67 = .ok (.getfield 12, 3) := by decide +kernel
theorem dX9_of_70 : decode cX9_of 70 = .ok (.getfield 47, 3) := by decide +kernel
theorem dX9_of_73 : decode cX9_of 73 = .ok (.getfield 94, 3) := by decide +kernel
theorem dX9_of_76 : decode cX9_of 76 = .ok (.iload_n 1, 1) := by decide +kernel
theorem dX9_of_77 : decode cX9_of 77 = .ok (.iaload, 1) := by decide +kernel
theorem dX9_of_78 : decode cX9_of 78 = .ok (.ireturn, 1) := by decide +kernel
theorem dX9_of_79 : decode cX9_of 79 = .ok (.aload_n 0, 1) := by decide +kernel
theorem dX9_of_80 : decode cX9_of 80 = .ok (.getfield 12, 3) := by decide +kernel
theorem dX9_of_83 : decode cX9_of 83 = .ok (.iload_n 1, 1) := by decide +kernel
theorem dX9_of_84 : decode cX9_of 84 = .ok (.invokevirtual 120, 3) := by decide +kernel
theorem dX9_of_87 : decode cX9_of 87 = .ok (.ifCond .eq 7, 3) := by decide +kernel
theorem dX9_of_90 : decode cX9_of 90 = .ok (.iconst 1, 1) := by decide +kernel
theorem dX9_of_91 : decode cX9_of 91 = .ok (.goto 4, 3) := by decide +kernel
theorem dX9_of_94 : decode cX9_of 94 = .ok (.iconst 0, 1) := by decide +kernel
theorem dX9_of_95 : decode cX9_of 95 = .ok (.ireturn, 1) := by decide +kernel
theorem dX9_of_96 : decode cX9_of 96 = .ok (.aload_n 0, 1) := by decide +kernel
theorem dX9_of_97 : decode cX9_of 97 = .ok (.getfield 12, 3) := by decide +kernel
theorem dX9_of_100 : decode cX9_of 100 = .ok (.getfield 47, 3) := by decide +kernel
theorem dX9_of_103 : decode cX9_of 103 = .ok (.getfield 200, 3) := by decide +kernel
theorem dX9_of_106 : decode cX9_of 106 = .ok (.iload_n 1, 1) := by decide +kernel
theorem dX9_of_107 : decode cX9_of 107 = .ok (.iaload, 1) := by decide +kernel
theorem dX9_of_108 : decode cX9_of 108 = .ok (.ireturn, 1) := by decide +kernel
theorem dX9_of_109 : decode cX9_of 109 = .ok (.aload_n 0, 1) := by decide +kernel
theorem dX9_of_110 : decode cX9_of 110 = .ok (.getfield 12, 3) := by decide +kernel
theorem dX9_of_113 : decode cX9_of 113 = .ok (.getfield 97, 3) := by decide +kernel
theorem dX9_of_116 : decode cX9_of 116 = .ok (.iload_n 1, 1) := by decide +kernel
theorem dX9_of_117 : decode cX9_of 117 = .ok (.iaload, 1) := by decide +kernel
theorem dX9_of_118 : decode cX9_of 118 = .ok (.ireturn, 1) := by decide +kernel
theorem dX9_of_119 : decode cX9_of 119 = .ok (.aload_n 0, 1) := by decide +kernel
theorem dX9_of_120 : decode cX9_of 120 = .ok (.getfield 12, 3) := by decide +kernel
theorem dX9_of_123 : decode cX9_of 123 = .ok (.bipush 104, 2) := by decide +kernel
theorem dX9_of_125 : decode cX9_of 125 = .ok (.iload_n 1, 1) := by decide +kernel
theorem dX9_of_126 : decode cX9_of 126 = .ok (.iconst 0, 1) := by decide +kernel
theorem dX9_of_127 : decode cX9_of 127 = .ok (.invokevirtual 203, 3) := by decide +kernel
theorem dX9_of_130 : decode cX9_of 130 = .ok (.ireturn, 1) := by decide +kernel
theorem dX9_of_131 : decode cX9_of 131 = .ok (.aload_n 0, 1) := by decide +kernel
theorem dX9_of_132 : decode cX9_of 132 = .ok (.getfield 12, 3) := by decide +kernel
theorem dX9_of_135 : decode cX9_of 135 = .ok (.iload_n 1, 1) := by decide +kernel
theorem dX9_of_136 : decode cX9_of 136 = .ok (.invokevirtual 207, 3) := by decide +kernel
theorem dX9_of_139 : decode cX9_of 139 = .ok (.ireturn, 1) := by decide +kernel
theorem dX9_of_140 : decode cX9_of 140 = .ok (.iconst (-1), 1) := by decide +kernel
theorem dX9_of_141 : decode cX9_of 141 = .ok (.ireturn, 1) := by decide +kernel
theorem dX9_who_0 : decode cX9_who 0 = .ok (.aload_n 0, 1) := by decide +kernel
theorem dX9_who_1 : decode cX9_who 1 = .ok (.getfield 12, 3) := by decide +kernel
theorem dX9_who_4 : decode cX9_who 4 = .ok (.iload_n 1, 1) := by decide +kernel
theorem dX9_who_5 : decode cX9_who 5 = .ok (.invokevirtual 84, 3) := by decide +kernel
theorem dX9_who_8 : decode cX9_who 8 = .ok (.ifCond .ne 5, 3) := by decide +kernel
theorem dX9_who_11 : decode cX9_who 11 = .ok (.iconst (-1), 1) := by decide +kernel
theorem dX9_who_12 : decode cX9_who 12 = .ok (.ireturn, 1) := by decide +kernel
theorem dX9_who_13 : decode cX9_who 13 = .ok (.iload_n 2, 1) := by decide +kernel
theorem dX9_who_14 : decode cX9_who 14 = .ok (.tableswitch 65 0 2 #[26, 39, 52], 26) := by decide +kernel
theorem dX9_who_40 : decode cX9_who 40 = .ok (.aload_n 0, 1) := by decide +kernel
theorem dX9_who_41 : decode cX9_who 41 = .ok (.getfield 12, 3) := by decide +kernel
theorem dX9_who_44 : decode cX9_who 44 = .ok (.getfield 47, 3) := by decide +kernel
theorem dX9_who_47 : decode cX9_who 47 = .ok (.getfield 113, 3) := by decide +kernel
theorem dX9_who_50 : decode cX9_who 50 = .ok (.iload_n 1, 1) := by decide +kernel
theorem dX9_who_51 : decode cX9_who 51 = .ok (.iaload, 1) := by decide +kernel
theorem dX9_who_52 : decode cX9_who 52 = .ok (.ireturn, 1) := by decide +kernel
theorem dX9_who_53 : decode cX9_who 53 = .ok (.aload_n 0, 1) := by decide +kernel
theorem dX9_who_54 : decode cX9_who 54 = .ok (.getfield 12, 3) := by decide +kernel
theorem dX9_who_57 : decode cX9_who 57 = .ok (.getfield 47, 3) := by decide +kernel
theorem dX9_who_60 : decode cX9_who 60 = .ok (.getfield 210, 3) := by decide +kernel
theorem dX9_who_63 : decode cX9_who 63 = .ok (.iload_n 1, 1) := by decide +kernel
theorem dX9_who_64 : decode cX9_who 64 = .ok (.iaload, 1) := by decide +kernel
theorem dX9_who_65 : decode cX9_who 65 = .ok (.ireturn, 1) := by decide +kernel
theorem dX9_who_66 : decode cX9_who 66 = .ok (.aload_n 0, 1) := by decide +kernel
theorem dX9_who_67 : decode cX9_who 67 = .ok (.getfield 12, 3) := by decide +kernel
theorem dX9_who_70 : decode cX9_who 70 = .ok (.getfield 47, 3) := by decide +kernel
theorem dX9_who_73 : decode cX9_who 73 = .ok (.getfield 87, 3) := by decide +kernel
theorem dX9_who_76 : decode cX9_who 76 = .ok (.iload_n 1, 1) := by decide +kernel
theorem dX9_who_77 : decode cX9_who 77 = .ok (.iaload, 1) := by decide +kernel
theorem dX9_who_78 : decode cX9_who 78 = .ok (.ireturn, 1) := by decide +kernel
theorem dX9_who_79 : decode cX9_who 79 = .ok (.iconst (-1), 1) := by decide +kernel
theorem dX9_who_80 : decode cX9_who 80 = .ok (.ireturn, 1) := by decide +kernel
theorem dX9_asks_0 : decode cX9_asks 0 = .ok (.aload_n 0, 1) := by decide +kernel
theorem dX9_asks_1 : decode cX9_asks 1 = .ok (.getfield 12, 3) := by decide +kernel
theorem dX9_asks_4 : decode cX9_asks 4 = .ok (.iload_n 1, 1) := by decide +kernel
theorem dX9_asks_5 : decode cX9_asks 5 = .ok (.invokevirtual 91, 3) := by decide +kernel
theorem dX9_asks_8 : decode cX9_asks 8 = .ok (.ifCond .eq 10, 3) := by decide +kernel
theorem dX9_asks_11 : decode cX9_asks 11 = .ok (.iload_n 2, 1) := by decide +kernel
theorem dX9_asks_12 : decode cX9_asks 12 = .ok (.invokestatic 67, 3) := by decide +kernel
theorem dX9_asks_15 : decode cX9_asks 15 = .ok (.ifCond .ne 5, 3) := by decide +kernel
theorem dX9_asks_18 : decode cX9_asks 18 = .ok (.iconst (-1), 1) := by decide +kernel
theorem dX9_asks_19 : decode cX9_asks 19 = .ok (.ireturn, 1) := by decide +kernel
theorem dX9_asks_20 : decode cX9_asks 20 = .ok (.aload_n 0, 1) := by decide +kernel
theorem dX9_asks_21 : decode cX9_asks 21 = .ok (.getfield 12, 3) := by decide +kernel
theorem dX9_asks_24 : decode cX9_asks 24 = .ok (.iload_n 3, 1) := by decide +kernel
theorem dX9_asks_25 : decode cX9_asks 25 = .ok (.ifCond .eq 8, 3) := by decide +kernel
theorem dX9_asks_28 : decode cX9_asks 28 = .ok (.bipush 106, 2) := by decide +kernel
theorem dX9_asks_30 : decode cX9_asks 30 = .ok (.goto 5, 3) := by decide +kernel
theorem dX9_asks_33 : decode cX9_asks 33 = .ok (.bipush 105, 2) := by decide +kernel
theorem dX9_asks_35 : decode cX9_asks 35 = .ok (.iload_n 1, 1) := by decide +kernel
theorem dX9_asks_36 : decode cX9_asks 36 = .ok (.iload_n 2, 1) := by decide +kernel
theorem dX9_asks_37 : decode cX9_asks 37 = .ok (.invokevirtual 203, 3) := by decide +kernel
theorem dX9_asks_40 : decode cX9_asks 40 = .ok (.ireturn, 1) := by decide +kernel
theorem dX9_book_0 : decode cX9_book 0 = .ok (.iload_n 1, 1) := by decide +kernel
theorem dX9_book_1 : decode cX9_book 1 = .ok (.ifCond .lt 26, 3) := by decide +kernel
theorem dX9_book_4 : decode cX9_book 4 = .ok (.iload_n 1, 1) := by decide +kernel
theorem dX9_book_5 : decode cX9_book 5 = .ok (.aload_n 0, 1) := by decide +kernel
theorem dX9_book_6 : decode cX9_book 6 = .ok (.getfield 12, 3) := by decide +kernel
theorem dX9_book_9 : decode cX9_book 9 = .ok (.getfield 213, 3) := by decide +kernel
theorem dX9_book_12 : decode cX9_book 12 = .ok (.getfield 171, 3) := by decide +kernel
theorem dX9_book_15 : decode cX9_book 15 = .ok (.if_icmp .ge 12, 3) := by decide +kernel
theorem dX9_book_18 : decode cX9_book 18 = .ok (.iload_n 2, 1) := by decide +kernel
theorem dX9_book_19 : decode cX9_book 19 = .ok (.ifCond .lt 8, 3) := by decide +kernel
theorem dX9_book_22 : decode cX9_book 22 = .ok (.iload_n 2, 1) := by decide +kernel
theorem dX9_book_23 : decode cX9_book 23 = .ok (.iconst 4, 1) := by decide +kernel
theorem dX9_book_24 : decode cX9_book 24 = .ok (.if_icmp .lt 6, 3) := by decide +kernel
theorem dX9_book_27 : decode cX9_book 27 = .ok (.bipush (-2), 2) := by decide +kernel
theorem dX9_book_29 : decode cX9_book 29 = .ok (.ireturn, 1) := by decide +kernel
theorem dX9_book_30 : decode cX9_book 30 = .ok (.aload_n 0, 1) := by decide +kernel
theorem dX9_book_31 : decode cX9_book 31 = .ok (.getfield 12, 3) := by decide +kernel
theorem dX9_book_34 : decode cX9_book 34 = .ok (.getfield 213, 3) := by decide +kernel
theorem dX9_book_37 : decode cX9_book 37 = .ok (.iload_n 1, 1) := by decide +kernel
theorem dX9_book_38 : decode cX9_book 38 = .ok (.iload_n 2, 1) := by decide +kernel
theorem dX9_book_39 : decode cX9_book 39 = .ok (.invokevirtual 216, 3) := by decide +kernel
theorem dX9_book_42 : decode cX9_book 42 = .ok (.ireturn, 1) := by decide +kernel
theorem dX9_goes_0 : decode cX9_goes 0 = .ok (.iload_n 1, 1) := by decide +kernel
theorem dX9_goes_1 : decode cX9_goes 1 = .ok (.iconst 1, 1) := by decide +kernel
theorem dX9_goes_2 : decode cX9_goes 2 = .ok (.if_icmp .lt 19, 3) := by decide +kernel
theorem dX9_goes_5 : decode cX9_goes 5 = .ok (.iload_n 1, 1) := by decide +kernel
theorem dX9_goes_6 : decode cX9_goes 6 = .ok (.sipush 400, 3) := by decide +kernel
theorem dX9_goes_9 : decode cX9_goes 9 = .ok (.if_icmp .gt 12, 3) := by decide +kernel
theorem dX9_goes_12 : decode cX9_goes 12 = .ok (.iload_n 2, 1) := by decide +kernel
theorem dX9_goes_13 : decode cX9_goes 13 = .ok (.ifCond .lt 8, 3) := by decide +kernel
theorem dX9_goes_16 : decode cX9_goes 16 = .ok (.iload_n 2, 1) := by decide +kernel
theorem dX9_goes_17 : decode cX9_goes 17 = .ok (.iconst 2, 1) := by decide +kernel
theorem dX9_goes_18 : decode cX9_goes 18 = .ok (.if_icmp .le 6, 3) := by decide +kernel
theorem dX9_goes_21 : decode cX9_goes 21 = .ok (.bipush (-2), 2) := by decide +kernel
theorem dX9_goes_23 : decode cX9_goes 23 = .ok (.ireturn, 1) := by decide +kernel
theorem dX9_goes_24 : decode cX9_goes 24 = .ok (.aload_n 0, 1) := by decide +kernel
theorem dX9_goes_25 : decode cX9_goes 25 = .ok (.invokevirtual 220, 3) := by decide +kernel
theorem dX9_goes_28 : decode cX9_goes 28 = .ok (.iconst (-1), 1) := by decide +kernel
theorem dX9_goes_29 : decode cX9_goes 29 = .ok (.istore_n 3, 1) := by decide +kernel
theorem dX9_goes_30 : decode cX9_goes 30 = .ok (.iconst (-1), 1) := by decide +kernel
theorem dX9_goes_31 : decode cX9_goes 31 = .ok (.istore 4, 2) := by decide +kernel
theorem dX9_goes_33 : decode cX9_goes 33 = .ok (.iconst 0, 1) := by decide +kernel
theorem dX9_goes_34 : decode cX9_goes 34 = .ok (.istore 5, 2) := by decide +kernel
theorem dX9_goes_36 : decode cX9_goes 36 = .ok (.iload 5, 2) := by decide +kernel
theorem dX9_goes_38 : decode cX9_goes 38 = .ok (.iload_n 1, 1) := by decide +kernel
theorem dX9_goes_39 : decode cX9_goes 39 = .ok (.if_icmp .ge 77, 3) := by decide +kernel
theorem dX9_goes_42 : decode cX9_goes 42 = .ok (.aload_n 0, 1) := by decide +kernel
theorem dX9_goes_43 : decode cX9_goes 43 = .ok (.getfield 19, 3) := by decide +kernel
theorem dX9_goes_46 : decode cX9_goes 46 = .ok (.getfield 47, 3) := by decide +kernel
theorem dX9_goes_49 : decode cX9_goes 49 = .ok (.getfield 133, 3) := by decide +kernel
theorem dX9_goes_52 : decode cX9_goes 52 = .ok (.istore 6, 2) := by decide +kernel
theorem dX9_goes_54 : decode cX9_goes 54 = .ok (.aload_n 0, 1) := by decide +kernel
theorem dX9_goes_55 : decode cX9_goes 55 = .ok (.getfield 19, 3) := by decide +kernel
theorem dX9_goes_58 : decode cX9_goes 58 = .ok (.getfield 47, 3) := by decide +kernel
theorem dX9_goes_61 : decode cX9_goes 61 = .ok (.getfield 136, 3) := by decide +kernel
theorem dX9_goes_64 : decode cX9_goes 64 = .ok (.istore 7, 2) := by decide +kernel
theorem dX9_goes_66 : decode cX9_goes 66 = .ok (.aload_n 0, 1) := by decide +kernel
theorem dX9_goes_67 : decode cX9_goes 67 = .ok (.getfield 19, 3) := by decide +kernel
theorem dX9_goes_70 : decode cX9_goes 70 = .ok (.invokevirtual 144, 3) := by decide +kernel
theorem dX9_goes_73 : decode cX9_goes 73 = .ok (.aload_n 0, 1) := by decide +kernel
theorem dX9_goes_74 : decode cX9_goes 74 = .ok (.getfield 19, 3) := by decide +kernel
theorem dX9_goes_77 : decode cX9_goes 77 = .ok (.getfield 47, 3) := by decide +kernel
theorem dX9_goes_80 : decode cX9_goes 80 = .ok (.getfield 136, 3) := by decide +kernel
theorem dX9_goes_83 : decode cX9_goes 83 = .ok (.iload 7, 2) := by decide +kernel
theorem dX9_goes_85 : decode cX9_goes 85 = .ok (.iconst (-1), 1) := by decide +kernel
theorem dX9_goes_86 : decode cX9_goes 86 = .ok (.ixor, 1) := by decide +kernel
theorem dX9_goes_87 : decode cX9_goes 87 = .ok (.iand, 1) := by decide +kernel
theorem dX9_goes_88 : decode cX9_goes 88 = .ok (.istore 8, 2) := by decide +kernel
theorem dX9_goes_90 : decode cX9_goes 90 = .ok (.iload_n 3, 1) := by decide +kernel
theorem dX9_goes_91 : decode cX9_goes 91 = .ok (.iconst (-1), 1) := by decide +kernel
theorem dX9_goes_92 : decode cX9_goes 92 = .ok (.if_icmp .ne 18, 3) := by decide +kernel
theorem dX9_goes_95 : decode cX9_goes 95 = .ok (.iload 8, 2) := by decide +kernel
theorem dX9_goes_97 : decode cX9_goes 97 = .ok (.ifCond .eq 13, 3) := by decide +kernel
theorem dX9_goes_100 : decode cX9_goes 100 = .ok (.iload 8, 2) := by decide +kernel
theorem dX9_goes_102 : decode cX9_goes 102 = .ok (.invokestatic 223, 3) := by decide +kernel
theorem dX9_goes_105 : decode cX9_goes 105 = .ok (.istore_n 3, 1) := by decide +kernel
theorem dX9_goes_106 : decode cX9_goes 106 = .ok (.iload 6, 2) := by decide +kernel
theorem dX9_goes_108 : decode cX9_goes 108 = .ok (.istore 4, 2) := by decide +kernel
theorem dX9_goes_110 : decode cX9_goes 110 = .ok (.iinc 5 1, 3) := by decide +kernel
theorem dX9_goes_113 : decode cX9_goes 113 = .ok (.goto (-77), 3) := by decide +kernel
theorem dX9_goes_116 : decode cX9_goes 116 = .ok (.iload_n 2, 1) := by decide +kernel
theorem dX9_goes_117 : decode cX9_goes 117 = .ok (.ifCond .ne 17, 3) := by decide +kernel
theorem dX9_goes_120 : decode cX9_goes 120 = .ok (.aload_n 0, 1) := by decide +kernel
theorem dX9_goes_121 : decode cX9_goes 121 = .ok (.getfield 19, 3) := by decide +kernel
theorem dX9_goes_124 : decode cX9_goes 124 = .ok (.getfield 47, 3) := by decide +kernel
theorem dX9_goes_127 : decode cX9_goes 127 = .ok (.getfield 136, 3) := by decide +kernel
theorem dX9_goes_130 : decode cX9_goes 130 = .ok (.invokestatic 139, 3) := by decide +kernel
theorem dX9_goes_133 : decode cX9_goes 133 = .ok (.ireturn, 1) := by decide +kernel
theorem dX9_goes_134 : decode cX9_goes 134 = .ok (.iload_n 2, 1) := by decide +kernel
theorem dX9_goes_135 : decode cX9_goes 135 = .ok (.iconst 1, 1) := by decide +kernel
theorem dX9_goes_136 : decode cX9_goes 136 = .ok (.if_icmp .ne 7, 3) := by decide +kernel
theorem dX9_goes_139 : decode cX9_goes 139 = .ok (.iload_n 3, 1) := by decide +kernel
theorem dX9_goes_140 : decode cX9_goes 140 = .ok (.goto 5, 3) := by decide +kernel
theorem dX9_goes_143 : decode cX9_goes 143 = .ok (.iload 4, 2) := by decide +kernel
theorem dX9_goes_145 : decode cX9_goes 145 = .ok (.ireturn, 1) := by decide +kernel
theorem dX9_beginThought_0 : decode cX9_beginThought 0 = .ok (.aload_n 0, 1) := by decide +kernel
theorem dX9_beginThought_1 : decode cX9_beginThought 1 = .ok (.getfield 19, 3) := by decide +kernel
theorem dX9_beginThought_4 : decode cX9_beginThought 4 = .ok (.aload_n 0, 1) := by decide +kernel
theorem dX9_beginThought_5 : decode cX9_beginThought 5 = .ok (.getfield 12, 3) := by decide +kernel
theorem dX9_beginThought_8 : decode cX9_beginThought 8 = .ok (.invokevirtual 226, 3) := by decide +kernel
theorem dX9_beginThought_11 : decode cX9_beginThought 11 = .ok (.aload_n 0, 1) := by decide +kernel
theorem dX9_beginThought_12 : decode cX9_beginThought 12 = .ok (.getfield 19, 3) := by decide +kernel
theorem dX9_beginThought_15 : decode cX9_beginThought 15 = .ok (.iconst 0, 1) := by decide +kernel
theorem dX9_beginThought_16 : decode cX9_beginThought 16 = .ok (.putfield 81, 3) := by decide +kernel
theorem dX9_beginThought_19 : decode cX9_beginThought 19 = .ok (.return_, 1) := by decide +kernel
theorem dX9_misses_0 : decode cX9_misses 0 = .ok (.iload_n 1, 1) := by decide +kernel
theorem dX9_misses_1 : decode cX9_misses 1 = .ok (.ifCond .eq 10, 3) := by decide +kernel
theorem dX9_misses_4 : decode cX9_misses 4 = .ok (.iload_n 1, 1) := by decide +kernel
theorem dX9_misses_5 : decode cX9_misses 5 = .ok (.iconst 1, 1) := by decide +kernel
theorem dX9_misses_6 : decode cX9_misses 6 = .ok (.if_icmp .eq 5, 3) := by decide +kernel
theorem dX9_misses_9 : decode cX9_misses 9 = .ok (.iconst (-1), 1) := by decide +kernel
theorem dX9_misses_10 : decode cX9_misses 10 = .ok (.ireturn, 1) := by decide +kernel
theorem dX9_misses_11 : decode cX9_misses 11 = .ok (.iconst (-1), 1) := by decide +kernel
theorem dX9_misses_12 : decode cX9_misses 12 = .ok (.istore_n 2, 1) := by decide +kernel
theorem dX9_misses_13 : decode cX9_misses 13 = .ok (.iconst 0, 1) := by decide +kernel
theorem dX9_misses_14 : decode cX9_misses 14 = .ok (.istore_n 3, 1) := by decide +kernel
theorem dX9_misses_15 : decode cX9_misses 15 = .ok (.iload_n 3, 1) := by decide +kernel
theorem dX9_misses_16 : decode cX9_misses 16 = .ok (.aload_n 0, 1) := by decide +kernel
theorem dX9_misses_17 : decode cX9_misses 17 = .ok (.getfield 12, 3) := by decide +kernel
theorem dX9_misses_20 : decode cX9_misses 20 = .ok (.getfield 167, 3) := by decide +kernel
theorem dX9_misses_23 : decode cX9_misses 23 = .ok (.getfield 171, 3) := by decide +kernel
theorem dX9_misses_26 : decode cX9_misses 26 = .ok (.if_icmp .ge 26, 3) := by decide +kernel
theorem dX9_misses_29 : decode cX9_misses 29 = .ok (.iload_n 2, 1) := by decide +kernel
theorem dX9_misses_30 : decode cX9_misses 30 = .ok (.aload_n 0, 1) := by decide +kernel
theorem dX9_misses_31 : decode cX9_misses 31 = .ok (.getfield 12, 3) := by decide +kernel
theorem dX9_misses_34 : decode cX9_misses 34 = .ok (.getfield 167, 3) := by decide +kernel
theorem dX9_misses_37 : decode cX9_misses 37 = .ok (.iload_n 3, 1) := by decide +kernel
theorem dX9_misses_38 : decode cX9_misses 38 = .ok (.iconst 1, 1) := by decide +kernel
theorem dX9_misses_39 : decode cX9_misses 39 = .ok (.invokevirtual 216, 3) := by decide +kernel
theorem dX9_misses_42 : decode cX9_misses 42 = .ok (.invokestatic 228, 3) := by decide +kernel
theorem dX9_misses_45 : decode cX9_misses 45 = .ok (.istore_n 2, 1) := by decide +kernel
theorem dX9_misses_46 : decode cX9_misses 46 = .ok (.iinc 3 1, 3) := by decide +kernel
theorem dX9_misses_49 : decode cX9_misses 49 = .ok (.goto (-34), 3) := by decide +kernel
theorem dX9_misses_52 : decode cX9_misses 52 = .ok (.aload_n 0, 1) := by decide +kernel
theorem dX9_misses_53 : decode cX9_misses 53 = .ok (.invokevirtual 220, 3) := by decide +kernel
theorem dX9_misses_56 : decode cX9_misses 56 = .ok (.iconst (-1), 1) := by decide +kernel
theorem dX9_misses_57 : decode cX9_misses 57 = .ok (.istore_n 3, 1) := by decide +kernel
theorem dX9_misses_58 : decode cX9_misses 58 = .ok (.iconst 0, 1) := by decide +kernel
theorem dX9_misses_59 : decode cX9_misses 59 = .ok (.istore 4, 2) := by decide +kernel
theorem dX9_misses_61 : decode cX9_misses 61 = .ok (.aload_n 0, 1) := by decide +kernel
theorem dX9_misses_62 : decode cX9_misses 62 = .ok (.getfield 12, 3) := by decide +kernel
theorem dX9_misses_65 : decode cX9_misses 65 = .ok (.getfield 47, 3) := by decide +kernel
theorem dX9_misses_68 : decode cX9_misses 68 = .ok (.getfield 133, 3) := by decide +kernel
theorem dX9_misses_71 : decode cX9_misses 71 = .ok (.istore 5, 2) := by decide +kernel
theorem dX9_misses_73 : decode cX9_misses 73 = .ok (.iload 5, 2) := by decide +kernel
theorem dX9_misses_75 : decode cX9_misses 75 = .ok (.iload_n 2, 1) := by decide +kernel
theorem dX9_misses_76 : decode cX9_misses 76 = .ok (.if_icmp .gt 120, 3) := by decide +kernel
theorem dX9_misses_79 : decode cX9_misses 79 = .ok (.aload_n 0, 1) := by decide +kernel
theorem dX9_misses_80 : decode cX9_misses 80 = .ok (.getfield 19, 3) := by decide +kernel
theorem dX9_misses_83 : decode cX9_misses 83 = .ok (.invokevirtual 144, 3) := by decide +kernel
theorem dX9_misses_86 : decode cX9_misses 86 = .ok (.aload_n 0, 1) := by decide +kernel
theorem dX9_misses_87 : decode cX9_misses 87 = .ok (.getfield 19, 3) := by decide +kernel
theorem dX9_misses_90 : decode cX9_misses 90 = .ok (.invokevirtual 233, 3) := by decide +kernel
theorem dX9_misses_93 : decode cX9_misses 93 = .ok (.istore 6, 2) := by decide +kernel
theorem dX9_misses_95 : decode cX9_misses 95 = .ok (.iconst 0, 1) := by decide +kernel
theorem dX9_misses_96 : decode cX9_misses 96 = .ok (.istore 7, 2) := by decide +kernel
theorem dX9_misses_98 : decode cX9_misses 98 = .ok (.iload 7, 2) := by decide +kernel
theorem dX9_misses_100 : decode cX9_misses 100 = .ok (.aload_n 0, 1) := by decide +kernel
theorem dX9_misses_101 : decode cX9_misses 101 = .ok (.getfield 12, 3) := by decide +kernel
theorem dX9_misses_104 : decode cX9_misses 104 = .ok (.getfield 167, 3) := by decide +kernel
theorem dX9_misses_107 : decode cX9_misses 107 = .ok (.getfield 171, 3) := by decide +kernel
theorem dX9_misses_110 : decode cX9_misses 110 = .ok (.if_icmp .ge 80, 3) := by decide +kernel
theorem dX9_misses_113 : decode cX9_misses 113 = .ok (.aload_n 0, 1) := by decide +kernel
theorem dX9_misses_114 : decode cX9_misses 114 = .ok (.getfield 12, 3) := by decide +kernel
theorem dX9_misses_117 : decode cX9_misses 117 = .ok (.getfield 167, 3) := by decide +kernel
theorem dX9_misses_120 : decode cX9_misses 120 = .ok (.iload 7, 2) := by decide +kernel
theorem dX9_misses_122 : decode cX9_misses 122 = .ok (.iconst 1, 1) := by decide +kernel
theorem dX9_misses_123 : decode cX9_misses 123 = .ok (.invokevirtual 216, 3) := by decide +kernel
theorem dX9_misses_126 : decode cX9_misses 126 = .ok (.iload 5, 2) := by decide +kernel
theorem dX9_misses_128 : decode cX9_misses 128 = .ok (.if_icmp .eq 6, 3) := by decide +kernel
theorem dX9_misses_131 : decode cX9_misses 131 = .ok (.goto 53, 3) := by decide +kernel
theorem dX9_misses_134 : decode cX9_misses 134 = .ok (.iload 6, 2) := by decide +kernel
theorem dX9_misses_136 : decode cX9_misses 136 = .ok (.aload_n 0, 1) := by decide +kernel
theorem dX9_misses_137 : decode cX9_misses 137 = .ok (.getfield 12, 3) := by decide +kernel
theorem dX9_misses_140 : decode cX9_misses 140 = .ok (.getfield 167, 3) := by decide +kernel
theorem dX9_misses_143 : decode cX9_misses 143 = .ok (.iload 7, 2) := by decide +kernel
theorem dX9_misses_145 : decode cX9_misses 145 = .ok (.iconst 0, 1) := by decide +kernel
theorem dX9_misses_146 : decode cX9_misses 146 = .ok (.invokevirtual 216, 3) := by decide +kernel
theorem dX9_misses_149 : decode cX9_misses 149 = .ok (.invokestatic 237, 3) := by decide +kernel
theorem dX9_misses_152 : decode cX9_misses 152 = .ok (.ifCond .eq 24, 3) := by decide +kernel
theorem dX9_misses_155 : decode cX9_misses 155 = .ok (.iload 4, 2) := by decide +kernel
theorem dX9_misses_157 : decode cX9_misses 157 = .ok (.aload_n 0, 1) := by decide +kernel
theorem dX9_misses_158 : decode cX9_misses 158 = .ok (.getfield 12, 3) := by decide +kernel
theorem dX9_misses_161 : decode cX9_misses 161 = .ok (.getfield 167, 3) := by decide +kernel
theorem dX9_misses_164 : decode cX9_misses 164 = .ok (.iload 7, 2) := by decide +kernel
theorem dX9_misses_166 : decode cX9_misses 166 = .ok (.iconst 2, 1) := by decide +kernel
theorem dX9_misses_167 : decode cX9_misses 167 = .ok (.invokevirtual 216, 3) := by decide +kernel
theorem dX9_misses_170 : decode cX9_misses 170 = .ok (.iadd, 1) := by decide +kernel
theorem dX9_misses_171 : decode cX9_misses 171 = .ok (.istore 4, 2) := by decide +kernel
theorem dX9_misses_173 : decode cX9_misses 173 = .ok (.goto 11, 3) := by decide +kernel
theorem dX9_misses_176 : decode cX9_misses 176 = .ok (.iload_n 3, 1) := by decide +kernel
theorem dX9_misses_177 : decode cX9_misses 177 = .ok (.iconst (-1), 1) := by decide +kernel
theorem dX9_misses_178 : decode cX9_misses 178 = .ok (.if_icmp .ne 6, 3) := by decide +kernel
theorem dX9_misses_181 : decode cX9_misses 181 = .ok (.iload 7, 2) := by decide +kernel
theorem dX9_misses_183 : decode cX9_misses 183 = .ok (.istore_n 3, 1) := by decide +kernel
theorem dX9_misses_184 : decode cX9_misses 184 = .ok (.iinc 7 1, 3) := by decide +kernel
theorem dX9_misses_187 : decode cX9_misses 187 = .ok (.goto (-89), 3) := by decide +kernel
theorem dX9_misses_190 : decode cX9_misses 190 = .ok (.iinc 5 1, 3) := by decide +kernel
theorem dX9_misses_193 : decode cX9_misses 193 = .ok (.goto (-120), 3) := by decide +kernel
theorem dX9_misses_196 : decode cX9_misses 196 = .ok (.iload_n 1, 1) := by decide +kernel
theorem dX9_misses_197 : decode cX9_misses 197 = .ok (.ifCond .ne 7, 3) := by decide +kernel
theorem dX9_misses_200 : decode cX9_misses 200 = .ok (.iload_n 3, 1) := by decide +kernel
theorem dX9_misses_201 : decode cX9_misses 201 = .ok (.goto 5, 3) := by decide +kernel
theorem dX9_misses_204 : decode cX9_misses 204 = .ok (.iload 4, 2) := by decide +kernel
theorem dX9_misses_206 : decode cX9_misses 206 = .ok (.ireturn, 1) := by decide +kernel
theorem dX9_wording_0 : decode cX9_wording 0 = .ok (.iload_n 1, 1) := by decide +kernel
theorem dX9_wording_1 : decode cX9_wording 1 = .ok (.ifCond .lt 17, 3) := by decide +kernel
theorem dX9_wording_4 : decode cX9_wording 4 = .ok (.iload_n 1, 1) := by decide +kernel
theorem dX9_wording_5 : decode cX9_wording 5 = .ok (.aload_n 0, 1) := by decide +kernel
theorem dX9_wording_6 : decode cX9_wording 6 = .ok (.getfield 12, 3) := by decide +kernel
theorem dX9_wording_9 : decode cX9_wording 9 = .ok (.getfield 157, 3) := by decide +kernel
theorem dX9_wording_12 : decode cX9_wording 12 = .ok (.getfield 240, 3) := by decide +kernel
theorem dX9_wording_15 : decode cX9_wording 15 = .ok (.if_icmp .lt 5, 3) := by decide +kernel
theorem dX9_wording_18 : decode cX9_wording 18 = .ok (.iconst (-1), 1) := by decide +kernel
theorem dX9_wording_19 : decode cX9_wording 19 = .ok (.ireturn, 1) := by decide +kernel
theorem dX9_wording_20 : decode cX9_wording 20 = .ok (.aload_n 0, 1) := by decide +kernel
theorem dX9_wording_21 : decode cX9_wording 21 = .ok (.getfield 12, 3) := by decide +kernel
theorem dX9_wording_24 : decode cX9_wording 24 = .ok (.getfield 157, 3) := by decide +kernel
theorem dX9_wording_27 : decode cX9_wording 27 = .ok (.iload_n 1, 1) := by decide +kernel
theorem dX9_wording_28 : decode cX9_wording 28 = .ok (.aload_n 0, 1) := by decide +kernel
theorem dX9_wording_29 : decode cX9_wording 29 = .ok (.getfield 12, 3) := by decide +kernel
theorem dX9_wording_32 : decode cX9_wording 32 = .ok (.invokevirtual 241, 3) := by decide +kernel
theorem dX9_wording_35 : decode cX9_wording 35 = .ok (.invokevirtual 244, 3) := by decide +kernel
theorem dX9_wording_38 : decode cX9_wording 38 = .ok (.istore_n 3, 1) := by decide +kernel
theorem dX9_wording_39 : decode cX9_wording 39 = .ok (.iload_n 3, 1) := by decide +kernel
theorem dX9_wording_40 : decode cX9_wording 40 = .ok (.iconst (-1), 1) := by decide +kernel
theorem dX9_wording_41 : decode cX9_wording 41 = .ok (.if_icmp .ne 5, 3) := by decide +kernel
theorem dX9_wording_44 : decode cX9_wording 44 = .ok (.iconst (-1), 1) := by decide +kernel
theorem dX9_wording_45 : decode cX9_wording 45 = .ok (.ireturn, 1) := by decide +kernel
theorem dX9_wording_46 : decode cX9_wording 46 = .ok (.iload_n 2, 1) := by decide +kernel
theorem dX9_wording_47 : decode cX9_wording 47 = .ok (.lookupswitch 40 #[(0, 25), (1, 38)], 25) := by decide +kernel
theorem dX9_wording_72 : decode cX9_wording 72 = .ok (.aload_n 0, 1) := by decide +kernel
theorem dX9_wording_73 : decode cX9_wording 73 = .ok (.getfield 12, 3) := by decide +kernel
theorem dX9_wording_76 : decode cX9_wording 76 = .ok (.getfield 157, 3) := by decide +kernel
theorem dX9_wording_79 : decode cX9_wording 79 = .ok (.iload_n 1, 1) := by decide +kernel
theorem dX9_wording_80 : decode cX9_wording 80 = .ok (.iload_n 3, 1) := by decide +kernel
theorem dX9_wording_81 : decode cX9_wording 81 = .ok (.invokevirtual 247, 3) := by decide +kernel
theorem dX9_wording_84 : decode cX9_wording 84 = .ok (.ireturn, 1) := by decide +kernel
theorem dX9_wording_85 : decode cX9_wording 85 = .ok (.iload_n 3, 1) := by decide +kernel
theorem dX9_wording_86 : decode cX9_wording 86 = .ok (.ireturn, 1) := by decide +kernel
theorem dX9_wording_87 : decode cX9_wording 87 = .ok (.iconst (-1), 1) := by decide +kernel
theorem dX9_wording_88 : decode cX9_wording 88 = .ok (.ireturn, 1) := by decide +kernel
theorem dX9_go_0 : decode cX9_go 0 = .ok (.iload_n 1, 1) := by decide +kernel
theorem dX9_go_1 : decode cX9_go 1 = .ok (.ifCond .lt 8, 3) := by decide +kernel
theorem dX9_go_4 : decode cX9_go 4 = .ok (.iload_n 1, 1) := by decide +kernel
theorem dX9_go_5 : decode cX9_go 5 = .ok (.iconst 3, 1) := by decide +kernel
theorem dX9_go_6 : decode cX9_go 6 = .ok (.if_icmp .le 5, 3) := by decide +kernel
theorem dX9_go_9 : decode cX9_go 9 = .ok (.iconst (-1), 1) := by decide +kernel
theorem dX9_go_10 : decode cX9_go 10 = .ok (.ireturn, 1) := by decide +kernel
theorem dX9_go_11 : decode cX9_go 11 = .ok (.iload_n 1, 1) := by decide +kernel
theorem dX9_go_12 : decode cX9_go 12 = .ok (.iconst 2, 1) := by decide +kernel
theorem dX9_go_13 : decode cX9_go 13 = .ok (.if_icmp .ge 13, 3) := by decide +kernel
theorem dX9_go_16 : decode cX9_go 16 = .ok (.aload_n 0, 1) := by decide +kernel
theorem dX9_go_17 : decode cX9_go 17 = .ok (.getfield 12, 3) := by decide +kernel
theorem dX9_go_20 : decode cX9_go 20 = .ok (.invokestatic 250, 3) := by decide +kernel
theorem dX9_go_23 : decode cX9_go 23 = .ok (.goto 10, 3) := by decide +kernel
theorem dX9_go_26 : decode cX9_go 26 = .ok (.aload_n 0, 1) := by decide +kernel
theorem dX9_go_27 : decode cX9_go 27 = .ok (.getfield 12, 3) := by decide +kernel
theorem dX9_go_30 : decode cX9_go 30 = .ok (.invokestatic 256, 3) := by decide +kernel
theorem dX9_go_33 : decode cX9_go 33 = .ok (.istore_n 2, 1) := by decide +kernel
theorem dX9_go_34 : decode cX9_go 34 = .ok (.iload_n 1, 1) := by decide +kernel
theorem dX9_go_35 : decode cX9_go 35 = .ok (.iconst 2, 1) := by decide +kernel
theorem dX9_go_36 : decode cX9_go 36 = .ok (.irem, 1) := by decide +kernel
theorem dX9_go_37 : decode cX9_go 37 = .ok (.ifCond .ne 10, 3) := by decide +kernel
theorem dX9_go_40 : decode cX9_go 40 = .ok (.iload_n 2, 1) := by decide +kernel
theorem dX9_go_41 : decode cX9_go 41 = .ok (.invokestatic 139, 3) := by decide +kernel
theorem dX9_go_44 : decode cX9_go 44 = .ok (.goto 4, 3) := by decide +kernel
theorem dX9_go_47 : decode cX9_go 47 = .ok (.iload_n 2, 1) := by decide +kernel
theorem dX9_go_48 : decode cX9_go 48 = .ok (.ireturn, 1) := by decide +kernel
theorem dX9_keepers_0 : decode cX9_keepers 0 = .ok (.iload_n 1, 1) := by decide +kernel
theorem dX9_keepers_1 : decode cX9_keepers 1 = .ok (.tableswitch 54 0 2 #[27, 38, 46], 27) := by decide +kernel
theorem dX9_keepers_28 : decode cX9_keepers 28 = .ok (.aload_n 0, 1) := by decide +kernel
theorem dX9_keepers_29 : decode cX9_keepers 29 = .ok (.getfield 12, 3) := by decide +kernel
theorem dX9_keepers_32 : decode cX9_keepers 32 = .ok (.invokestatic 259, 3) := by decide +kernel
theorem dX9_keepers_35 : decode cX9_keepers 35 = .ok (.invokestatic 139, 3) := by decide +kernel
theorem dX9_keepers_38 : decode cX9_keepers 38 = .ok (.ireturn, 1) := by decide +kernel
theorem dX9_keepers_39 : decode cX9_keepers 39 = .ok (.aload_n 0, 1) := by decide +kernel
theorem dX9_keepers_40 : decode cX9_keepers 40 = .ok (.getfield 12, 3) := by decide +kernel
theorem dX9_keepers_43 : decode cX9_keepers 43 = .ok (.invokestatic 259, 3) := by decide +kernel
theorem dX9_keepers_46 : decode cX9_keepers 46 = .ok (.ireturn, 1) := by decide +kernel
theorem dX9_keepers_47 : decode cX9_keepers 47 = .ok (.aload_n 0, 1) := by decide +kernel
theorem dX9_keepers_48 : decode cX9_keepers 48 = .ok (.getfield 12, 3) := by decide +kernel
theorem dX9_keepers_51 : decode cX9_keepers 51 = .ok (.invokestatic 262, 3) := by decide +kernel
theorem dX9_keepers_54 : decode cX9_keepers 54 = .ok (.ireturn, 1) := by decide +kernel
theorem dX9_keepers_55 : decode cX9_keepers 55 = .ok (.iconst (-1), 1) := by decide +kernel
theorem dX9_keepers_56 : decode cX9_keepers 56 = .ok (.ireturn, 1) := by decide +kernel
theorem dX9_costs_0 : decode cX9_costs 0 = .ok (.aload_n 0, 1) := by decide +kernel
theorem dX9_costs_1 : decode cX9_costs 1 = .ok (.getfield 12, 3) := by decide +kernel
theorem dX9_costs_4 : decode cX9_costs 4 = .ok (.iload_n 1, 1) := by decide +kernel
theorem dX9_costs_5 : decode cX9_costs 5 = .ok (.invokevirtual 84, 3) := by decide +kernel
theorem dX9_costs_8 : decode cX9_costs 8 = .ok (.ifCond .eq 14, 3) := by decide +kernel
theorem dX9_costs_11 : decode cX9_costs 11 = .ok (.aload_n 0, 1) := by decide +kernel
theorem dX9_costs_12 : decode cX9_costs 12 = .ok (.getfield 12, 3) := by decide +kernel
theorem dX9_costs_15 : decode cX9_costs 15 = .ok (.iload_n 1, 1) := by decide +kernel
theorem dX9_costs_16 : decode cX9_costs 16 = .ok (.invokestatic 265, 3) := by decide +kernel
theorem dX9_costs_19 : decode cX9_costs 19 = .ok (.goto 4, 3) := by decide +kernel
theorem dX9_costs_22 : decode cX9_costs 22 = .ok (.iconst (-1), 1) := by decide +kernel
theorem dX9_costs_23 : decode cX9_costs 23 = .ok (.ireturn, 1) := by decide +kernel
theorem dX9_round_0 : decode cX9_round 0 = .ok (.aload_n 0, 1) := by decide +kernel
theorem dX9_round_1 : decode cX9_round 1 = .ok (.getfield 12, 3) := by decide +kernel
theorem dX9_round_4 : decode cX9_round 4 = .ok (.iload_n 1, 1) := by decide +kernel
theorem dX9_round_5 : decode cX9_round 5 = .ok (.invokevirtual 84, 3) := by decide +kernel
theorem dX9_round_8 : decode cX9_round 8 = .ok (.ifCond .eq 23, 3) := by decide +kernel
theorem dX9_round_11 : decode cX9_round 11 = .ok (.iload_n 2, 1) := by decide +kernel
theorem dX9_round_12 : decode cX9_round 12 = .ok (.ifCond .lt 19, 3) := by decide +kernel
theorem dX9_round_15 : decode cX9_round 15 = .ok (.iload_n 2, 1) := by decide +kernel
theorem dX9_round_16 : decode cX9_round 16 = .ok (.sipush 1024, 3) := by decide +kernel
theorem dX9_round_19 : decode cX9_round 19 = .ok (.if_icmp .ge 12, 3) := by decide +kernel
theorem dX9_round_22 : decode cX9_round 22 = .ok (.iload_n 2, 1) := by decide +kernel
theorem dX9_round_23 : decode cX9_round 23 = .ok (.invokestatic 139, 3) := by decide +kernel
theorem dX9_round_26 : decode cX9_round 26 = .ok (.bipush 6, 2) := by decide +kernel
theorem dX9_round_28 : decode cX9_round 28 = .ok (.if_icmp .le 5, 3) := by decide +kernel
theorem dX9_round_31 : decode cX9_round 31 = .ok (.iconst (-1), 1) := by decide +kernel
theorem dX9_round_32 : decode cX9_round 32 = .ok (.ireturn, 1) := by decide +kernel
theorem dX9_round_33 : decode cX9_round 33 = .ok (.aload_n 0, 1) := by decide +kernel
theorem dX9_round_34 : decode cX9_round 34 = .ok (.getfield 12, 3) := by decide +kernel
theorem dX9_round_37 : decode cX9_round 37 = .ok (.getfield 47, 3) := by decide +kernel
theorem dX9_round_40 : decode cX9_round 40 = .ok (.getfield 113, 3) := by decide +kernel
theorem dX9_round_43 : decode cX9_round 43 = .ok (.iload_n 1, 1) := by decide +kernel
theorem dX9_round_44 : decode cX9_round 44 = .ok (.iaload, 1) := by decide +kernel
theorem dX9_round_45 : decode cX9_round 45 = .ok (.istore 4, 2) := by decide +kernel
theorem dX9_round_47 : decode cX9_round 47 = .ok (.iload_n 3, 1) := by decide +kernel
theorem dX9_round_48 : decode cX9_round 48 = .ok (.ifCond .ne 14, 3) := by decide +kernel
theorem dX9_round_51 : decode cX9_round 51 = .ok (.aload_n 0, 1) := by decide +kernel
theorem dX9_round_52 : decode cX9_round 52 = .ok (.getfield 12, 3) := by decide +kernel
theorem dX9_round_55 : decode cX9_round 55 = .ok (.iload 4, 2) := by decide +kernel
theorem dX9_round_57 : decode cX9_round 57 = .ok (.iload_n 2, 1) := by decide +kernel
theorem dX9_round_58 : decode cX9_round 58 = .ok (.invokestatic 269, 3) := by decide +kernel
theorem dX9_round_61 : decode cX9_round 61 = .ok (.ireturn, 1) := by decide +kernel
theorem dX9_round_62 : decode cX9_round 62 = .ok (.iload_n 3, 1) := by decide +kernel
theorem dX9_round_63 : decode cX9_round 63 = .ok (.bipush 10, 2) := by decide +kernel
theorem dX9_round_65 : decode cX9_round 65 = .ok (.if_icmp .lt 14, 3) := by decide +kernel
theorem dX9_round_68 : decode cX9_round 68 = .ok (.iload_n 3, 1) := by decide +kernel
theorem dX9_round_69 : decode cX9_round 69 = .ok (.bipush 10, 2) := by decide +kernel
theorem dX9_round_71 : decode cX9_round 71 = .ok (.isub, 1) := by decide +kernel
theorem dX9_round_72 : decode cX9_round 72 = .ok (.iload_n 2, 1) := by decide +kernel
theorem dX9_round_73 : decode cX9_round 73 = .ok (.invokestatic 139, 3) := by decide +kernel
theorem dX9_round_76 : decode cX9_round 76 = .ok (.if_icmp .lt 5, 3) := by decide +kernel
theorem dX9_round_79 : decode cX9_round 79 = .ok (.iconst (-1), 1) := by decide +kernel
theorem dX9_round_80 : decode cX9_round 80 = .ok (.ireturn, 1) := by decide +kernel
theorem dX9_round_81 : decode cX9_round 81 = .ok (.aload_n 0, 1) := by decide +kernel
theorem dX9_round_82 : decode cX9_round 82 = .ok (.getfield 12, 3) := by decide +kernel
theorem dX9_round_85 : decode cX9_round 85 = .ok (.iload 4, 2) := by decide +kernel
theorem dX9_round_87 : decode cX9_round 87 = .ok (.iload_n 2, 1) := by decide +kernel
theorem dX9_round_88 : decode cX9_round 88 = .ok (.iload_n 3, 1) := by decide +kernel
theorem dX9_round_89 : decode cX9_round 89 = .ok (.bipush 10, 2) := by decide +kernel
theorem dX9_round_91 : decode cX9_round 91 = .ok (.isub, 1) := by decide +kernel
theorem dX9_round_92 : decode cX9_round 92 = .ok (.invokestatic 273, 3) := by decide +kernel
theorem dX9_round_95 : decode cX9_round 95 = .ok (.ireturn, 1) := by decide +kernel
theorem dX9_quarrel_0 : decode cX9_quarrel 0 = .ok (.aload_n 0, 1) := by decide +kernel
theorem dX9_quarrel_1 : decode cX9_quarrel 1 = .ok (.getfield 12, 3) := by decide +kernel
theorem dX9_quarrel_4 : decode cX9_quarrel 4 = .ok (.iload_n 1, 1) := by decide +kernel
theorem dX9_quarrel_5 : decode cX9_quarrel 5 = .ok (.invokevirtual 84, 3) := by decide +kernel
theorem dX9_quarrel_8 : decode cX9_quarrel 8 = .ok (.ifCond .eq 30, 3) := by decide +kernel
theorem dX9_quarrel_11 : decode cX9_quarrel 11 = .ok (.aload_n 0, 1) := by decide +kernel
theorem dX9_quarrel_12 : decode cX9_quarrel 12 = .ok (.getfield 12, 3) := by decide +kernel
theorem dX9_quarrel_15 : decode cX9_quarrel 15 = .ok (.iload_n 2, 1) := by decide +kernel
theorem dX9_quarrel_16 : decode cX9_quarrel 16 = .ok (.invokevirtual 84, 3) := by decide +kernel
theorem dX9_quarrel_19 : decode cX9_quarrel 19 = .ok (.ifCond .eq 19, 3) := by decide +kernel
theorem dX9_quarrel_22 : decode cX9_quarrel 22 = .ok (.iload_n 1, 1) := by decide +kernel
theorem dX9_quarrel_23 : decode cX9_quarrel 23 = .ok (.iload_n 2, 1) := by decide +kernel
theorem dX9_quarrel_24 : decode cX9_quarrel 24 = .ok (.if_icmp .eq 14, 3) := by decide +kernel
theorem dX9_quarrel_27 : decode cX9_quarrel 27 = .ok (.iload_n 3, 1) := by decide +kernel
theorem dX9_quarrel_28 : decode cX9_quarrel 28 = .ok (.iconst 1, 1) := by decide +kernel
theorem dX9_quarrel_29 : decode cX9_quarrel 29 = .ok (.if_icmp .lt 9, 3) := by decide +kernel
theorem dX9_quarrel_32 : decode cX9_quarrel 32 = .ok (.iload_n 3, 1) := by decide +kernel
theorem dX9_quarrel_33 : decode cX9_quarrel 33 = .ok (.bipush 6, 2) := by decide +kernel
theorem dX9_quarrel_35 : decode cX9_quarrel 35 = .ok (.if_icmp .le 5, 3) := by decide +kernel
theorem dX9_quarrel_38 : decode cX9_quarrel 38 = .ok (.iconst (-1), 1) := by decide +kernel
theorem dX9_quarrel_39 : decode cX9_quarrel 39 = .ok (.ireturn, 1) := by decide +kernel
theorem dX9_quarrel_40 : decode cX9_quarrel 40 = .ok (.aload_n 0, 1) := by decide +kernel
theorem dX9_quarrel_41 : decode cX9_quarrel 41 = .ok (.getfield 12, 3) := by decide +kernel
theorem dX9_quarrel_44 : decode cX9_quarrel 44 = .ok (.getfield 47, 3) := by decide +kernel
theorem dX9_quarrel_47 : decode cX9_quarrel 47 = .ok (.getfield 210, 3) := by decide +kernel
theorem dX9_quarrel_50 : decode cX9_quarrel 50 = .ok (.iload_n 1, 1) := by decide +kernel
theorem dX9_quarrel_51 : decode cX9_quarrel 51 = .ok (.iaload, 1) := by decide +kernel
theorem dX9_quarrel_52 : decode cX9_quarrel 52 = .ok (.aload_n 0, 1) := by decide +kernel
theorem dX9_quarrel_53 : decode cX9_quarrel 53 = .ok (.getfield 12, 3) := by decide +kernel
theorem dX9_quarrel_56 : decode cX9_quarrel 56 = .ok (.getfield 47, 3) := by decide +kernel
theorem dX9_quarrel_59 : decode cX9_quarrel 59 = .ok (.getfield 210, 3) := by decide +kernel
theorem dX9_quarrel_62 : decode cX9_quarrel 62 = .ok (.iload_n 2, 1) := by decide +kernel
theorem dX9_quarrel_63 : decode cX9_quarrel 63 = .ok (.iaload, 1) := by decide +kernel
theorem dX9_quarrel_64 : decode cX9_quarrel 64 = .ok (.iand, 1) := by decide +kernel
theorem dX9_quarrel_65 : decode cX9_quarrel 65 = .ok (.istore 5, 2) := by decide +kernel
theorem dX9_quarrel_67 : decode cX9_quarrel 67 = .ok (.iload 4, 2) := by decide +kernel
theorem dX9_quarrel_69 : decode cX9_quarrel 69 = .ok (.ifCond .ne 9, 3) := by decide +kernel
theorem dX9_quarrel_72 : decode cX9_quarrel 72 = .ok (.iload 5, 2) := by decide +kernel
theorem dX9_quarrel_74 : decode cX9_quarrel 74 = .ok (.invokestatic 139, 3) := by decide +kernel
theorem dX9_quarrel_77 : decode cX9_quarrel 77 = .ok (.ireturn, 1) := by decide +kernel
theorem dX9_quarrel_78 : decode cX9_quarrel 78 = .ok (.iload 4, 2) := by decide +kernel
theorem dX9_quarrel_80 : decode cX9_quarrel 80 = .ok (.iconst 1, 1) := by decide +kernel
theorem dX9_quarrel_81 : decode cX9_quarrel 81 = .ok (.if_icmp .eq 9, 3) := by decide +kernel
theorem dX9_quarrel_84 : decode cX9_quarrel 84 = .ok (.iload 4, 2) := by decide +kernel
theorem dX9_quarrel_86 : decode cX9_quarrel 86 = .ok (.iconst 2, 1) := by decide +kernel
theorem dX9_quarrel_87 : decode cX9_quarrel 87 = .ok (.if_icmp .ne 12, 3) := by decide +kernel
theorem dX9_quarrel_90 : decode cX9_quarrel 90 = .ok (.iload_n 3, 1) := by decide +kernel
theorem dX9_quarrel_91 : decode cX9_quarrel 91 = .ok (.iload 5, 2) := by decide +kernel
theorem dX9_quarrel_93 : decode cX9_quarrel 93 = .ok (.invokestatic 139, 3) := by decide +kernel
theorem dX9_quarrel_96 : decode cX9_quarrel 96 = .ok (.if_icmp .le 5, 3) := by decide +kernel
theorem dX9_quarrel_99 : decode cX9_quarrel 99 = .ok (.iconst (-1), 1) := by decide +kernel
theorem dX9_quarrel_100 : decode cX9_quarrel 100 = .ok (.ireturn, 1) := by decide +kernel
theorem dX9_quarrel_101 : decode cX9_quarrel 101 = .ok (.aload_n 0, 1) := by decide +kernel
theorem dX9_quarrel_102 : decode cX9_quarrel 102 = .ok (.getfield 12, 3) := by decide +kernel
theorem dX9_quarrel_105 : decode cX9_quarrel 105 = .ok (.iload 5, 2) := by decide +kernel
theorem dX9_quarrel_107 : decode cX9_quarrel 107 = .ok (.iload_n 3, 1) := by decide +kernel
theorem dX9_quarrel_108 : decode cX9_quarrel 108 = .ok (.invokestatic 277, 3) := by decide +kernel
theorem dX9_quarrel_111 : decode cX9_quarrel 111 = .ok (.istore 6, 2) := by decide +kernel
theorem dX9_quarrel_113 : decode cX9_quarrel 113 = .ok (.iload 4, 2) := by decide +kernel
theorem dX9_quarrel_115 : decode cX9_quarrel 115 = .ok (.iconst 1, 1) := by decide +kernel
theorem dX9_quarrel_116 : decode cX9_quarrel 116 = .ok (.if_icmp .ne 15, 3) := by decide +kernel
theorem dX9_quarrel_119 : decode cX9_quarrel 119 = .ok (.aload_n 0, 1) := by decide +kernel
theorem dX9_quarrel_120 : decode cX9_quarrel 120 = .ok (.getfield 12, 3) := by decide +kernel
theorem dX9_quarrel_123 : decode cX9_quarrel 123 = .ok (.iload 6, 2) := by decide +kernel
theorem dX9_quarrel_125 : decode cX9_quarrel 125 = .ok (.invokestatic 280, 3) := by decide +kernel
theorem dX9_quarrel_128 : decode cX9_quarrel 128 = .ok (.goto 5, 3) := by decide +kernel
theorem dX9_quarrel_131 : decode cX9_quarrel 131 = .ok (.iload 6, 2) := by decide +kernel
theorem dX9_quarrel_133 : decode cX9_quarrel 133 = .ok (.ireturn, 1) := by decide +kernel
theorem dX9_talk_0 : decode cX9_talk 0 = .ok (.iload_n 1, 1) := by decide +kernel
theorem dX9_talk_1 : decode cX9_talk 1 = .ok (.iconst (-1), 1) := by decide +kernel
theorem dX9_talk_2 : decode cX9_talk 2 = .ok (.if_icmp .ne 16, 3) := by decide +kernel
theorem dX9_talk_5 : decode cX9_talk 5 = .ok (.aload_n 0, 1) := by decide +kernel
theorem dX9_talk_6 : decode cX9_talk 6 = .ok (.getfield 12, 3) := by decide +kernel
theorem dX9_talk_9 : decode cX9_talk 9 = .ok (.getfield 283, 3) := by decide +kernel
theorem dX9_talk_12 : decode cX9_talk 12 = .ok (.iconst 0, 1) := by decide +kernel
theorem dX9_talk_13 : decode cX9_talk 13 = .ok (.putfield 171, 3) := by decide +kernel
theorem dX9_talk_16 : decode cX9_talk 16 = .ok (.iconst 0, 1) := by decide +kernel
theorem dX9_talk_17 : decode cX9_talk 17 = .ok (.ireturn, 1) := by decide +kernel
theorem dX9_talk_18 : decode cX9_talk 18 = .ok (.iload_n 2, 1) := by decide +kernel
theorem dX9_talk_19 : decode cX9_talk 19 = .ok (.iconst (-1), 1) := by decide +kernel
theorem dX9_talk_20 : decode cX9_talk 20 = .ok (.if_icmp .eq 12, 3) := by decide +kernel
theorem dX9_talk_23 : decode cX9_talk 23 = .ok (.iload_n 2, 1) := by decide +kernel
theorem dX9_talk_24 : decode cX9_talk 24 = .ok (.invokestatic 67, 3) := by decide +kernel
theorem dX9_talk_27 : decode cX9_talk 27 = .ok (.ifCond .ne 5, 3) := by decide +kernel
theorem dX9_talk_30 : decode cX9_talk 30 = .ok (.iconst (-1), 1) := by decide +kernel
theorem dX9_talk_31 : decode cX9_talk 31 = .ok (.ireturn, 1) := by decide +kernel
theorem dX9_talk_32 : decode cX9_talk 32 = .ok (.aload_n 0, 1) := by decide +kernel
theorem dX9_talk_33 : decode cX9_talk 33 = .ok (.getfield 12, 3) := by decide +kernel
theorem dX9_talk_36 : decode cX9_talk 36 = .ok (.iload_n 1, 1) := by decide +kernel
theorem dX9_talk_37 : decode cX9_talk 37 = .ok (.invokevirtual 91, 3) := by decide +kernel
theorem dX9_talk_40 : decode cX9_talk 40 = .ok (.ifCond .eq 18, 3) := by decide +kernel
theorem dX9_talk_43 : decode cX9_talk 43 = .ok (.aload_n 0, 1) := by decide +kernel
theorem dX9_talk_44 : decode cX9_talk 44 = .ok (.getfield 12, 3) := by decide +kernel
theorem dX9_talk_47 : decode cX9_talk 47 = .ok (.getfield 283, 3) := by decide +kernel
theorem dX9_talk_50 : decode cX9_talk 50 = .ok (.getfield 171, 3) := by decide +kernel
theorem dX9_talk_53 : decode cX9_talk 53 = .ok (.bipush 10, 2) := by decide +kernel
theorem dX9_talk_55 : decode cX9_talk 55 = .ok (.if_icmp .lt 5, 3) := by decide +kernel
theorem dX9_talk_58 : decode cX9_talk 58 = .ok (.iconst (-1), 1) := by decide +kernel
theorem dX9_talk_59 : decode cX9_talk 59 = .ok (.ireturn, 1) := by decide +kernel
theorem dX9_talk_60 : decode cX9_talk 60 = .ok (.aload_n 0, 1) := by decide +kernel
theorem dX9_talk_61 : decode cX9_talk 61 = .ok (.getfield 12, 3) := by decide +kernel
theorem dX9_talk_64 : decode cX9_talk 64 = .ok (.getfield 283, 3) := by decide +kernel
theorem dX9_talk_67 : decode cX9_talk 67 = .ok (.iload_n 1, 1) := by decide +kernel
theorem dX9_talk_68 : decode cX9_talk 68 = .ok (.iload_n 2, 1) := by decide +kernel
theorem dX9_talk_69 : decode cX9_talk 69 = .ok (.iconst 0, 1) := by decide +kernel
theorem dX9_talk_70 : decode cX9_talk 70 = .ok (.iconst 0, 1) := by decide +kernel
theorem dX9_talk_71 : decode cX9_talk 71 = .ok (.invokevirtual 286, 3) := by decide +kernel
theorem dX9_talk_74 : decode cX9_talk 74 = .ok (.aload_n 0, 1) := by decide +kernel
theorem dX9_talk_75 : decode cX9_talk 75 = .ok (.getfield 12, 3) := by decide +kernel
theorem dX9_talk_78 : decode cX9_talk 78 = .ok (.getfield 283, 3) := by decide +kernel
theorem dX9_talk_81 : decode cX9_talk 81 = .ok (.getfield 171, 3) := by decide +kernel
theorem dX9_talk_84 : decode cX9_talk 84 = .ok (.ireturn, 1) := by decide +kernel
theorem dX9_spoke_0 : decode cX9_spoke 0 = .ok (.aload_n 0, 1) := by decide +kernel
theorem dX9_spoke_1 : decode cX9_spoke 1 = .ok (.getfield 12, 3) := by decide +kernel
theorem dX9_spoke_4 : decode cX9_spoke 4 = .ok (.invokestatic 290, 3) := by decide +kernel
theorem dX9_spoke_7 : decode cX9_spoke 7 = .ok (.istore_n 2, 1) := by decide +kernel
theorem dX9_spoke_8 : decode cX9_spoke 8 = .ok (.iload_n 1, 1) := by decide +kernel
theorem dX9_spoke_9 : decode cX9_spoke 9 = .ok (.ifCond .eq 7, 3) := by decide +kernel
theorem dX9_spoke_12 : decode cX9_spoke 12 = .ok (.iload_n 2, 1) := by decide +kernel
theorem dX9_spoke_13 : decode cX9_spoke 13 = .ok (.goto 11, 3) := by decide +kernel
theorem dX9_spoke_16 : decode cX9_spoke 16 = .ok (.aload_n 0, 1) := by decide +kernel
theorem dX9_spoke_17 : decode cX9_spoke 17 = .ok (.getfield 12, 3) := by decide +kernel
theorem dX9_spoke_20 : decode cX9_spoke 20 = .ok (.iload_n 2, 1) := by decide +kernel
theorem dX9_spoke_21 : decode cX9_spoke 21 = .ok (.invokestatic 293, 3) := by decide +kernel
theorem dX9_spoke_24 : decode cX9_spoke 24 = .ok (.ireturn, 1) := by decide +kernel
theorem dX9_grasps_0 : decode cX9_grasps 0 = .ok (.aload_n 0, 1) := by decide +kernel
theorem dX9_grasps_1 : decode cX9_grasps 1 = .ok (.getfield 12, 3) := by decide +kernel
theorem dX9_grasps_4 : decode cX9_grasps 4 = .ok (.iload_n 1, 1) := by decide +kernel
theorem dX9_grasps_5 : decode cX9_grasps 5 = .ok (.invokevirtual 84, 3) := by decide +kernel
theorem dX9_grasps_8 : decode cX9_grasps 8 = .ok (.ifCond .eq 14, 3) := by decide +kernel
theorem dX9_grasps_11 : decode cX9_grasps 11 = .ok (.aload_n 0, 1) := by decide +kernel
theorem dX9_grasps_12 : decode cX9_grasps 12 = .ok (.getfield 12, 3) := by decide +kernel
theorem dX9_grasps_15 : decode cX9_grasps 15 = .ok (.iload_n 2, 1) := by decide +kernel
theorem dX9_grasps_16 : decode cX9_grasps 16 = .ok (.invokevirtual 84, 3) := by decide +kernel
theorem dX9_grasps_19 : decode cX9_grasps 19 = .ok (.ifCond .ne 5, 3) := by decide +kernel
theorem dX9_grasps_22 : decode cX9_grasps 22 = .ok (.iconst (-1), 1) := by decide +kernel
theorem dX9_grasps_23 : decode cX9_grasps 23 = .ok (.ireturn, 1) := by decide +kernel
theorem dX9_grasps_24 : decode cX9_grasps 24 = .ok (.aload_n 0, 1) := by decide +kernel
theorem dX9_grasps_25 : decode cX9_grasps 25 = .ok (.getfield 12, 3) := by decide +kernel
theorem dX9_grasps_28 : decode cX9_grasps 28 = .ok (.iload_n 1, 1) := by decide +kernel
theorem dX9_grasps_29 : decode cX9_grasps 29 = .ok (.iload_n 2, 1) := by decide +kernel
theorem dX9_grasps_30 : decode cX9_grasps 30 = .ok (.invokestatic 296, 3) := by decide +kernel
theorem dX9_grasps_33 : decode cX9_grasps 33 = .ok (.ireturn, 1) := by decide +kernel
theorem dX9_circle_0 : decode cX9_circle 0 = .ok (.aload_n 0, 1) := by decide +kernel
theorem dX9_circle_1 : decode cX9_circle 1 = .ok (.getfield 12, 3) := by decide +kernel
theorem dX9_circle_4 : decode cX9_circle 4 = .ok (.iload_n 1, 1) := by decide +kernel
theorem dX9_circle_5 : decode cX9_circle 5 = .ok (.invokevirtual 84, 3) := by decide +kernel
theorem dX9_circle_8 : decode cX9_circle 8 = .ok (.ifCond .eq 14, 3) := by decide +kernel
theorem dX9_circle_11 : decode cX9_circle 11 = .ok (.aload_n 0, 1) := by decide +kernel
theorem dX9_circle_12 : decode cX9_circle 12 = .ok (.getfield 12, 3) := by decide +kernel
theorem dX9_circle_15 : decode cX9_circle 15 = .ok (.iload_n 1, 1) := by decide +kernel
theorem dX9_circle_16 : decode cX9_circle 16 = .ok (.invokestatic 299, 3) := by decide +kernel
theorem dX9_circle_19 : decode cX9_circle 19 = .ok (.goto 4, 3) := by decide +kernel
theorem dX9_circle_22 : decode cX9_circle 22 = .ok (.iconst (-1), 1) := by decide +kernel
theorem dX9_circle_23 : decode cX9_circle 23 = .ok (.ireturn, 1) := by decide +kernel
theorem dX9_odds_0 : decode cX9_odds 0 = .ok (.iload_n 1, 1) := by decide +kernel
theorem dX9_odds_1 : decode cX9_odds 1 = .ok (.iconst 1, 1) := by decide +kernel
theorem dX9_odds_2 : decode cX9_odds 2 = .ok (.if_icmp .lt 19, 3) := by decide +kernel
theorem dX9_odds_5 : decode cX9_odds 5 = .ok (.iload_n 1, 1) := by decide +kernel
theorem dX9_odds_6 : decode cX9_odds 6 = .ok (.bipush 60, 2) := by decide +kernel
theorem dX9_odds_8 : decode cX9_odds 8 = .ok (.if_icmp .gt 13, 3) := by decide +kernel
theorem dX9_odds_11 : decode cX9_odds 11 = .ok (.iload_n 2, 1) := by decide +kernel
theorem dX9_odds_12 : decode cX9_odds 12 = .ok (.ifCond .lt 9, 3) := by decide +kernel
theorem dX9_odds_15 : decode cX9_odds 15 = .ok (.iload_n 2, 1) := by decide +kernel
theorem dX9_odds_16 : decode cX9_odds 16 = .ok (.bipush 9, 2) := by decide +kernel
theorem dX9_odds_18 : decode cX9_odds 18 = .ok (.if_icmp .le 5, 3) := by decide +kernel
theorem dX9_odds_21 : decode cX9_odds 21 = .ok (.iconst (-1), 1) := by decide +kernel
theorem dX9_odds_22 : decode cX9_odds 22 = .ok (.ireturn, 1) := by decide +kernel
theorem dX9_odds_23 : decode cX9_odds 23 = .ok (.ldc_w 302, 3) := by decide +kernel
theorem dX9_odds_26 : decode cX9_odds 26 = .ok (.istore_n 3, 1) := by decide +kernel
theorem dX9_odds_27 : decode cX9_odds 27 = .ok (.iconst 0, 1) := by decide +kernel
theorem dX9_odds_28 : decode cX9_odds 28 = .ok (.istore 4, 2) := by decide +kernel
theorem dX9_odds_30 : decode cX9_odds 30 = .ok (.iload 4, 2) := by decide +kernel
theorem dX9_odds_32 : decode cX9_odds 32 = .ok (.iload_n 2, 1) := by decide +kernel
theorem dX9_odds_33 : decode cX9_odds 33 = .ok (.iload_n 1, 1) := by decide +kernel
theorem dX9_odds_34 : decode cX9_odds 34 = .ok (.imul, 1) := by decide +kernel
theorem dX9_odds_35 : decode cX9_odds 35 = .ok (.if_icmp .ge 27, 3) := by decide +kernel
theorem dX9_odds_38 : decode cX9_odds 38 = .ok (.iload_n 3, 1) := by decide +kernel
theorem dX9_odds_39 : decode cX9_odds 39 = .ok (.sipush 1000, 3) := by decide +kernel
theorem dX9_odds_42 : decode cX9_odds 42 = .ok (.aload_n 0, 1) := by decide +kernel
theorem dX9_odds_43 : decode cX9_odds 43 = .ok (.getfield 12, 3) := by decide +kernel
theorem dX9_odds_46 : decode cX9_odds 46 = .ok (.getfield 81, 3) := by decide +kernel
theorem dX9_odds_49 : decode cX9_odds 49 = .ok (.isub, 1) := by decide +kernel
theorem dX9_odds_50 : decode cX9_odds 50 = .ok (.imul, 1) := by decide +kernel
theorem dX9_odds_51 : decode cX9_odds 51 = .ok (.sipush 1000, 3) := by decide +kernel
theorem dX9_odds_54 : decode cX9_odds 54 = .ok (.idiv, 1) := by decide +kernel
theorem dX9_odds_55 : decode cX9_odds 55 = .ok (.istore_n 3, 1) := by decide +kernel
theorem dX9_odds_56 : decode cX9_odds 56 = .ok (.iinc 4 1, 3) := by decide +kernel
theorem dX9_odds_59 : decode cX9_odds 59 = .ok (.goto (-29), 3) := by decide +kernel
theorem dX9_odds_62 : decode cX9_odds 62 = .ok (.ldc_w 302, 3) := by decide +kernel
theorem dX9_odds_65 : decode cX9_odds 65 = .ok (.iload_n 3, 1) := by decide +kernel
theorem dX9_odds_66 : decode cX9_odds 66 = .ok (.isub, 1) := by decide +kernel
theorem dX9_odds_67 : decode cX9_odds 67 = .ok (.ireturn, 1) := by decide +kernel
theorem dX9_school_0 : decode cX9_school 0 = .ok (.aload_n 0, 1) := by decide +kernel
theorem dX9_school_1 : decode cX9_school 1 = .ok (.getfield 12, 3) := by decide +kernel
theorem dX9_school_4 : decode cX9_school 4 = .ok (.iload_n 1, 1) := by decide +kernel
theorem dX9_school_5 : decode cX9_school 5 = .ok (.invokevirtual 84, 3) := by decide +kernel
theorem dX9_school_8 : decode cX9_school 8 = .ok (.ifCond .eq 12, 3) := by decide +kernel
theorem dX9_school_11 : decode cX9_school 11 = .ok (.iload_n 2, 1) := by decide +kernel
theorem dX9_school_12 : decode cX9_school 12 = .ok (.ifCond .eq 10, 3) := by decide +kernel
theorem dX9_school_15 : decode cX9_school 15 = .ok (.iload_n 2, 1) := by decide +kernel
theorem dX9_school_16 : decode cX9_school 16 = .ok (.iconst 1, 1) := by decide +kernel
theorem dX9_school_17 : decode cX9_school 17 = .ok (.if_icmp .eq 5, 3) := by decide +kernel
theorem dX9_school_20 : decode cX9_school 20 = .ok (.iconst (-1), 1) := by decide +kernel
theorem dX9_school_21 : decode cX9_school 21 = .ok (.ireturn, 1) := by decide +kernel
theorem dX9_school_22 : decode cX9_school 22 = .ok (.aload_n 0, 1) := by decide +kernel
theorem dX9_school_23 : decode cX9_school 23 = .ok (.getfield 12, 3) := by decide +kernel
theorem dX9_school_26 : decode cX9_school 26 = .ok (.iload_n 1, 1) := by decide +kernel
theorem dX9_school_27 : decode cX9_school 27 = .ok (.invokestatic 303, 3) := by decide +kernel
theorem dX9_school_30 : decode cX9_school 30 = .ok (.istore_n 3, 1) := by decide +kernel
theorem dX9_school_31 : decode cX9_school 31 = .ok (.iload_n 2, 1) := by decide +kernel
theorem dX9_school_32 : decode cX9_school 32 = .ok (.ifCond .ne 10, 3) := by decide +kernel
theorem dX9_school_35 : decode cX9_school 35 = .ok (.iload_n 3, 1) := by decide +kernel
theorem dX9_school_36 : decode cX9_school 36 = .ok (.invokestatic 139, 3) := by decide +kernel
theorem dX9_school_39 : decode cX9_school 39 = .ok (.goto 4, 3) := by decide +kernel
theorem dX9_school_42 : decode cX9_school 42 = .ok (.iload_n 3, 1) := by decide +kernel
theorem dX9_school_43 : decode cX9_school 43 = .ok (.ireturn, 1) := by decide +kernel
theorem dX9_verse_0 : decode cX9_verse 0 = .ok (.iload_n 1, 1) := by decide +kernel
theorem dX9_verse_1 : decode cX9_verse 1 = .ok (.ifCond .eq 10, 3) := by decide +kernel
theorem dX9_verse_4 : decode cX9_verse 4 = .ok (.iload_n 1, 1) := by decide +kernel
theorem dX9_verse_5 : decode cX9_verse 5 = .ok (.iconst 1, 1) := by decide +kernel
theorem dX9_verse_6 : decode cX9_verse 6 = .ok (.if_icmp .eq 5, 3) := by decide +kernel
theorem dX9_verse_9 : decode cX9_verse 9 = .ok (.iconst (-1), 1) := by decide +kernel
theorem dX9_verse_10 : decode cX9_verse 10 = .ok (.ireturn, 1) := by decide +kernel
theorem dX9_verse_11 : decode cX9_verse 11 = .ok (.aload_n 0, 1) := by decide +kernel
theorem dX9_verse_12 : decode cX9_verse 12 = .ok (.getfield 12, 3) := by decide +kernel
theorem dX9_verse_15 : decode cX9_verse 15 = .ok (.invokestatic 306, 3) := by decide +kernel
theorem dX9_verse_18 : decode cX9_verse 18 = .ok (.istore_n 2, 1) := by decide +kernel
theorem dX9_verse_19 : decode cX9_verse 19 = .ok (.iload_n 1, 1) := by decide +kernel
theorem dX9_verse_20 : decode cX9_verse 20 = .ok (.ifCond .ne 14, 3) := by decide +kernel
theorem dX9_verse_23 : decode cX9_verse 23 = .ok (.aload_n 0, 1) := by decide +kernel
theorem dX9_verse_24 : decode cX9_verse 24 = .ok (.getfield 12, 3) := by decide +kernel
theorem dX9_verse_27 : decode cX9_verse 27 = .ok (.iload_n 2, 1) := by decide +kernel
theorem dX9_verse_28 : decode cX9_verse 28 = .ok (.invokestatic 309, 3) := by decide +kernel
theorem dX9_verse_31 : decode cX9_verse 31 = .ok (.goto 4, 3) := by decide +kernel
theorem dX9_verse_34 : decode cX9_verse 34 = .ok (.iload_n 2, 1) := by decide +kernel
theorem dX9_verse_35 : decode cX9_verse 35 = .ok (.ireturn, 1) := by decide +kernel
theorem dX9_boast_0 : decode cX9_boast 0 = .ok (.aload_n 0, 1) := by decide +kernel
theorem dX9_boast_1 : decode cX9_boast 1 = .ok (.getfield 12, 3) := by decide +kernel
theorem dX9_boast_4 : decode cX9_boast 4 = .ok (.iload_n 1, 1) := by decide +kernel
theorem dX9_boast_5 : decode cX9_boast 5 = .ok (.invokevirtual 84, 3) := by decide +kernel
theorem dX9_boast_8 : decode cX9_boast 8 = .ok (.ifCond .ne 5, 3) := by decide +kernel
theorem dX9_boast_11 : decode cX9_boast 11 = .ok (.iconst (-1), 1) := by decide +kernel
theorem dX9_boast_12 : decode cX9_boast 12 = .ok (.ireturn, 1) := by decide +kernel
theorem dX9_boast_13 : decode cX9_boast 13 = .ok (.aload_n 0, 1) := by decide +kernel
theorem dX9_boast_14 : decode cX9_boast 14 = .ok (.getfield 12, 3) := by decide +kernel
theorem dX9_boast_17 : decode cX9_boast 17 = .ok (.getfield 47, 3) := by decide +kernel
theorem dX9_boast_20 : decode cX9_boast 20 = .ok (.getfield 210, 3) := by decide +kernel
theorem dX9_boast_23 : decode cX9_boast 23 = .ok (.iload_n 1, 1) := by decide +kernel
theorem dX9_boast_24 : decode cX9_boast 24 = .ok (.iaload, 1) := by decide +kernel
theorem dX9_boast_25 : decode cX9_boast 25 = .ok (.istore_n 3, 1) := by decide +kernel
theorem dX9_boast_26 : decode cX9_boast 26 = .ok (.aload_n 0, 1) := by decide +kernel
theorem dX9_boast_27 : decode cX9_boast 27 = .ok (.getfield 12, 3) := by decide +kernel
theorem dX9_boast_30 : decode cX9_boast 30 = .ok (.getfield 157, 3) := by decide +kernel
theorem dX9_boast_33 : decode cX9_boast 33 = .ok (.iload_n 3, 1) := by decide +kernel
theorem dX9_boast_34 : decode cX9_boast 34 = .ok (.invokevirtual 312, 3) := by decide +kernel
theorem dX9_boast_37 : decode cX9_boast 37 = .ok (.istore 4, 2) := by decide +kernel
theorem dX9_boast_39 : decode cX9_boast 39 = .ok (.iload 4, 2) := by decide +kernel
theorem dX9_boast_41 : decode cX9_boast 41 = .ok (.iconst (-1), 1) := by decide +kernel
theorem dX9_boast_42 : decode cX9_boast 42 = .ok (.if_icmp .ne 5, 3) := by decide +kernel
theorem dX9_boast_45 : decode cX9_boast 45 = .ok (.iconst (-1), 1) := by decide +kernel
theorem dX9_boast_46 : decode cX9_boast 46 = .ok (.ireturn, 1) := by decide +kernel
theorem dX9_boast_47 : decode cX9_boast 47 = .ok (.iload_n 2, 1) := by decide +kernel
theorem dX9_boast_48 : decode cX9_boast 48 = .ok (.lookupswitch 45 #[(0, 28), (1, 42)], 28) := by decide +kernel
theorem dX9_boast_76 : decode cX9_boast 76 = .ok (.aload_n 0, 1) := by decide +kernel
theorem dX9_boast_77 : decode cX9_boast 77 = .ok (.getfield 12, 3) := by decide +kernel
theorem dX9_boast_80 : decode cX9_boast 80 = .ok (.getfield 157, 3) := by decide +kernel
theorem dX9_boast_83 : decode cX9_boast 83 = .ok (.iload 4, 2) := by decide +kernel
theorem dX9_boast_85 : decode cX9_boast 85 = .ok (.iload_n 3, 1) := by decide +kernel
theorem dX9_boast_86 : decode cX9_boast 86 = .ok (.invokevirtual 315, 3) := by decide +kernel
theorem dX9_boast_89 : decode cX9_boast 89 = .ok (.ireturn, 1) := by decide +kernel
theorem dX9_boast_90 : decode cX9_boast 90 = .ok (.iload 4, 2) := by decide +kernel
theorem dX9_boast_92 : decode cX9_boast 92 = .ok (.ireturn, 1) := by decide +kernel
theorem dX9_boast_93 : decode cX9_boast 93 = .ok (.iconst (-1), 1) := by decide +kernel
theorem dX9_boast_94 : decode cX9_boast 94 = .ok (.ireturn, 1) := by decide +kernel
theorem dX9_crowd_0 : decode cX9_crowd 0 = .ok (.aload_n 0, 1) := by decide +kernel
theorem dX9_crowd_1 : decode cX9_crowd 1 = .ok (.getfield 12, 3) := by decide +kernel
theorem dX9_crowd_4 : decode cX9_crowd 4 = .ok (.invokestatic 318, 3) := by decide +kernel
theorem dX9_crowd_7 : decode cX9_crowd 7 = .ok (.istore_n 2, 1) := by decide +kernel
theorem dX9_crowd_8 : decode cX9_crowd 8 = .ok (.iload_n 1, 1) := by decide +kernel
theorem dX9_crowd_9 : decode cX9_crowd 9 = .ok (.tableswitch 57 0 2 #[27, 29, 41], 27) := by decide +kernel
theorem dX9_crowd_36 : decode cX9_crowd 36 = .ok (.iload_n 2, 1) := by decide +kernel
theorem dX9_crowd_37 : decode cX9_crowd 37 = .ok (.ireturn, 1) := by decide +kernel
theorem dX9_crowd_38 : decode cX9_crowd 38 = .ok (.aload_n 0, 1) := by decide +kernel
theorem dX9_crowd_39 : decode cX9_crowd 39 = .ok (.getfield 12, 3) := by decide +kernel
theorem dX9_crowd_42 : decode cX9_crowd 42 = .ok (.iload_n 2, 1) := by decide +kernel
theorem dX9_crowd_43 : decode cX9_crowd 43 = .ok (.invokevirtual 321, 3) := by decide +kernel
theorem dX9_crowd_46 : decode cX9_crowd 46 = .ok (.invokestatic 139, 3) := by decide +kernel
theorem dX9_crowd_49 : decode cX9_crowd 49 = .ok (.ireturn, 1) := by decide +kernel
theorem dX9_crowd_50 : decode cX9_crowd 50 = .ok (.aload_n 0, 1) := by decide +kernel
theorem dX9_crowd_51 : decode cX9_crowd 51 = .ok (.getfield 12, 3) := by decide +kernel
theorem dX9_crowd_54 : decode cX9_crowd 54 = .ok (.aload_n 0, 1) := by decide +kernel
theorem dX9_crowd_55 : decode cX9_crowd 55 = .ok (.getfield 12, 3) := by decide +kernel
theorem dX9_crowd_58 : decode cX9_crowd 58 = .ok (.iload_n 2, 1) := by decide +kernel
theorem dX9_crowd_59 : decode cX9_crowd 59 = .ok (.invokevirtual 321, 3) := by decide +kernel
theorem dX9_crowd_62 : decode cX9_crowd 62 = .ok (.invokestatic 324, 3) := by decide +kernel
theorem dX9_crowd_65 : decode cX9_crowd 65 = .ok (.ireturn, 1) := by decide +kernel
theorem dX9_crowd_66 : decode cX9_crowd 66 = .ok (.iconst (-1), 1) := by decide +kernel
theorem dX9_crowd_67 : decode cX9_crowd 67 = .ok (.ireturn, 1) := by decide +kernel
theorem dX9_silence_0 : decode cX9_silence 0 = .ok (.aload_n 0, 1) := by decide +kernel
theorem dX9_silence_1 : decode cX9_silence 1 = .ok (.getfield 12, 3) := by decide +kernel
theorem dX9_silence_4 : decode cX9_silence 4 = .ok (.invokestatic 327, 3) := by decide +kernel
theorem dX9_silence_7 : decode cX9_silence 7 = .ok (.istore_n 2, 1) := by decide +kernel
theorem dX9_silence_8 : decode cX9_silence 8 = .ok (.aload_n 0, 1) := by decide +kernel
theorem dX9_silence_9 : decode cX9_silence 9 = .ok (.getfield 12, 3) := by decide +kernel
theorem dX9_silence_12 : decode cX9_silence 12 = .ok (.iload_n 2, 1) := by decide +kernel
theorem dX9_silence_13 : decode cX9_silence 13 = .ok (.invokestatic 330, 3) := by decide +kernel
theorem dX9_silence_16 : decode cX9_silence 16 = .ok (.istore_n 3, 1) := by decide +kernel
theorem dX9_silence_17 : decode cX9_silence 17 = .ok (.iload_n 3, 1) := by decide +kernel
theorem dX9_silence_18 : decode cX9_silence 18 = .ok (.iconst (-1), 1) := by decide +kernel
theorem dX9_silence_19 : decode cX9_silence 19 = .ok (.if_icmp .ne 5, 3) := by decide +kernel
theorem dX9_silence_22 : decode cX9_silence 22 = .ok (.iconst (-1), 1) := by decide +kernel
theorem dX9_silence_23 : decode cX9_silence 23 = .ok (.ireturn, 1) := by decide +kernel
theorem dX9_silence_24 : decode cX9_silence 24 = .ok (.iload_n 1, 1) := by decide +kernel
theorem dX9_silence_25 : decode cX9_silence 25 = .ok (.lookupswitch 40 #[(0, 27), (1, 29)], 27) := by decide +kernel
theorem dX9_silence_52 : decode cX9_silence 52 = .ok (.iload_n 3, 1) := by decide +kernel
theorem dX9_silence_53 : decode cX9_silence 53 = .ok (.ireturn, 1) := by decide +kernel
theorem dX9_silence_54 : decode cX9_silence 54 = .ok (.aload_n 0, 1) := by decide +kernel
theorem dX9_silence_55 : decode cX9_silence 55 = .ok (.getfield 12, 3) := by decide +kernel
theorem dX9_silence_58 : decode cX9_silence 58 = .ok (.iload_n 3, 1) := by decide +kernel
theorem dX9_silence_59 : decode cX9_silence 59 = .ok (.invokevirtual 333, 3) := by decide +kernel
theorem dX9_silence_62 : decode cX9_silence 62 = .ok (.iload_n 2, 1) := by decide +kernel
theorem dX9_silence_63 : decode cX9_silence 63 = .ok (.ixor, 1) := by decide +kernel
theorem dX9_silence_64 : decode cX9_silence 64 = .ok (.ireturn, 1) := by decide +kernel
theorem dX9_silence_65 : decode cX9_silence 65 = .ok (.iconst (-1), 1) := by decide +kernel
theorem dX9_silence_66 : decode cX9_silence 66 = .ok (.ireturn, 1) := by decide +kernel
theorem dX9_undo_0 : decode cX9_undo 0 = .ok (.aload_n 0, 1) := by decide +kernel
theorem dX9_undo_1 : decode cX9_undo 1 = .ok (.getfield 25, 3) := by decide +kernel
theorem dX9_undo_4 : decode cX9_undo 4 = .ok (.aload_n 0, 1) := by decide +kernel
theorem dX9_undo_5 : decode cX9_undo 5 = .ok (.getfield 12, 3) := by decide +kernel
theorem dX9_undo_8 : decode cX9_undo 8 = .ok (.invokevirtual 336, 3) := by decide +kernel
theorem dX9_undo_11 : decode cX9_undo 11 = .ok (.ireturn, 1) := by decide +kernel
theorem dX9_image_0 : decode cX9_image 0 = .ok (.iload_n 1, 1) := by decide +kernel
theorem dX9_image_1 : decode cX9_image 1 = .ok (.ifCond .eq 21, 3) := by decide +kernel
theorem dX9_image_4 : decode cX9_image 4 = .ok (.aload_n 0, 1) := by decide +kernel
theorem dX9_image_5 : decode cX9_image 5 = .ok (.getfield 16, 3) := by decide +kernel
theorem dX9_image_8 : decode cX9_image 8 = .ok (.aload_n 0, 1) := by decide +kernel
theorem dX9_image_9 : decode cX9_image 9 = .ok (.getfield 12, 3) := by decide +kernel
theorem dX9_image_12 : decode cX9_image 12 = .ok (.invokevirtual 226, 3) := by decide +kernel
theorem dX9_image_15 : decode cX9_image 15 = .ok (.aload_n 0, 1) := by decide +kernel
theorem dX9_image_16 : decode cX9_image 16 = .ok (.iconst 1, 1) := by decide +kernel
theorem dX9_image_17 : decode cX9_image 17 = .ok (.putfield 43, 3) := by decide +kernel
theorem dX9_image_20 : decode cX9_image 20 = .ok (.iconst 1, 1) := by decide +kernel
theorem dX9_image_21 : decode cX9_image 21 = .ok (.ireturn, 1) := by decide +kernel
theorem dX9_image_22 : decode cX9_image 22 = .ok (.aload_n 0, 1) := by decide +kernel
theorem dX9_image_23 : decode cX9_image 23 = .ok (.getfield 43, 3) := by decide +kernel
theorem dX9_image_26 : decode cX9_image 26 = .ok (.ifCond .ne 5, 3) := by decide +kernel
theorem dX9_image_29 : decode cX9_image 29 = .ok (.iconst 0, 1) := by decide +kernel
theorem dX9_image_30 : decode cX9_image 30 = .ok (.ireturn, 1) := by decide +kernel
theorem dX9_image_31 : decode cX9_image 31 = .ok (.aload_n 0, 1) := by decide +kernel
theorem dX9_image_32 : decode cX9_image 32 = .ok (.getfield 12, 3) := by decide +kernel
theorem dX9_image_35 : decode cX9_image 35 = .ok (.aload_n 0, 1) := by decide +kernel
theorem dX9_image_36 : decode cX9_image 36 = .ok (.getfield 16, 3) := by decide +kernel
theorem dX9_image_39 : decode cX9_image 39 = .ok (.invokevirtual 226, 3) := by decide +kernel
theorem dX9_image_42 : decode cX9_image 42 = .ok (.aload_n 0, 1) := by decide +kernel
theorem dX9_image_43 : decode cX9_image 43 = .ok (.getfield 25, 3) := by decide +kernel
theorem dX9_image_46 : decode cX9_image 46 = .ok (.invokevirtual 57, 3) := by decide +kernel
theorem dX9_image_49 : decode cX9_image 49 = .ok (.iconst 1, 1) := by decide +kernel
theorem dX9_image_50 : decode cX9_image 50 = .ok (.ireturn, 1) := by decide +kernel
theorem dX9_look_0 : decode cX9_look 0 = .ok (.iload_n 1, 1) := by decide +kernel
theorem dX9_look_1 : decode cX9_look 1 = .ok (.tableswitch 210 0 13 #[71, 79, 87, 98, 106, 117, 128, 139, 150, 161, 172, 183, 194, 202], 71) := by decide +kernel
theorem dX9_look_72 : decode cX9_look 72 = .ok (.aload_n 0, 1) := by decide +kernel
theorem dX9_look_73 : decode cX9_look 73 = .ok (.getfield 12, 3) := by decide +kernel
theorem dX9_look_76 : decode cX9_look 76 = .ok (.getfield 60, 3) := by decide +kernel
theorem dX9_look_79 : decode cX9_look 79 = .ok (.ireturn, 1) := by decide +kernel
theorem dX9_look_80 : decode cX9_look 80 = .ok (.aload_n 0, 1) := by decide +kernel
theorem dX9_look_81 : decode cX9_look 81 = .ok (.getfield 12, 3) := by decide +kernel
theorem dX9_look_84 : decode cX9_look 84 = .ok (.getfield 71, 3) := by decide +kernel
theorem dX9_look_87 : decode cX9_look 87 = .ok (.ireturn, 1) := by decide +kernel
theorem dX9_look_88 : decode cX9_look 88 = .ok (.aload_n 0, 1) := by decide +kernel
theorem dX9_look_89 : decode cX9_look 89 = .ok (.getfield 12, 3) := by decide +kernel
theorem dX9_look_92 : decode cX9_look 92 = .ok (.getfield 47, 3) := by decide +kernel
theorem dX9_look_95 : decode cX9_look 95 = .ok (.getfield 133, 3) := by decide +kernel
theorem dX9_look_98 : decode cX9_look 98 = .ok (.ireturn, 1) := by decide +kernel
theorem dX9_look_99 : decode cX9_look 99 = .ok (.aload_n 0, 1) := by decide +kernel
theorem dX9_look_100 : decode cX9_look 100 = .ok (.getfield 12, 3) := by decide +kernel
theorem dX9_look_103 : decode cX9_look 103 = .ok (.getfield 81, 3) := by decide +kernel
theorem dX9_look_106 : decode cX9_look 106 = .ok (.ireturn, 1) := by decide +kernel
theorem dX9_look_107 : decode cX9_look 107 = .ok (.aload_n 0, 1) := by decide +kernel
theorem dX9_look_108 : decode cX9_look 108 = .ok (.getfield 12, 3) := by decide +kernel
theorem dX9_look_111 : decode cX9_look 111 = .ok (.getfield 47, 3) := by decide +kernel
theorem dX9_look_114 : decode cX9_look 114 = .ok (.getfield 136, 3) := by decide +kernel
theorem dX9_look_117 : decode cX9_look 117 = .ok (.ireturn, 1) := by decide +kernel
theorem dX9_look_118 : decode cX9_look 118 = .ok (.aload_n 0, 1) := by decide +kernel
theorem dX9_look_119 : decode cX9_look 119 = .ok (.getfield 12, 3) := by decide +kernel
theorem dX9_look_122 : decode cX9_look 122 = .ok (.getfield 213, 3) := by decide +kernel
theorem dX9_look_125 : decode cX9_look 125 = .ok (.getfield 171, 3) := by decide +kernel
theorem dX9_look_128 : decode cX9_look 128 = .ok (.ireturn, 1) := by decide +kernel
theorem dX9_look_129 : decode cX9_look 129 = .ok (.aload_n 0, 1) := by decide +kernel
theorem dX9_look_130 : decode cX9_look 130 = .ok (.getfield 12, 3) := by decide +kernel
theorem dX9_look_133 : decode cX9_look 133 = .ok (.getfield 47, 3) := by decide +kernel
theorem dX9_look_136 : decode cX9_look 136 = .ok (.getfield 51, 3) := by decide +kernel
theorem dX9_look_139 : decode cX9_look 139 = .ok (.ireturn, 1) := by decide +kernel
theorem dX9_look_140 : decode cX9_look 140 = .ok (.aload_n 0, 1) := by decide +kernel
theorem dX9_look_141 : decode cX9_look 141 = .ok (.getfield 12, 3) := by decide +kernel
theorem dX9_look_144 : decode cX9_look 144 = .ok (.getfield 157, 3) := by decide +kernel
theorem dX9_look_147 : decode cX9_look 147 = .ok (.getfield 240, 3) := by decide +kernel
theorem dX9_look_150 : decode cX9_look 150 = .ok (.ireturn, 1) := by decide +kernel
theorem dX9_look_151 : decode cX9_look 151 = .ok (.aload_n 0, 1) := by decide +kernel
theorem dX9_look_152 : decode cX9_look 152 = .ok (.getfield 12, 3) := by decide +kernel
theorem dX9_look_155 : decode cX9_look 155 = .ok (.getfield 176, 3) := by decide +kernel
theorem dX9_look_158 : decode cX9_look 158 = .ok (.getfield 340, 3) := by decide +kernel
theorem dX9_look_161 : decode cX9_look 161 = .ok (.ireturn, 1) := by decide +kernel
theorem dX9_look_162 : decode cX9_look 162 = .ok (.aload_n 0, 1) := by decide +kernel
theorem dX9_look_163 : decode cX9_look 163 = .ok (.getfield 12, 3) := by decide +kernel
theorem dX9_look_166 : decode cX9_look 166 = .ok (.getfield 185, 3) := by decide +kernel
theorem dX9_look_169 : decode cX9_look 169 = .ok (.getfield 171, 3) := by decide +kernel
theorem dX9_look_172 : decode cX9_look 172 = .ok (.ireturn, 1) := by decide +kernel
theorem dX9_look_173 : decode cX9_look 173 = .ok (.aload_n 0, 1) := by decide +kernel
theorem dX9_look_174 : decode cX9_look 174 = .ok (.getfield 12, 3) := by decide +kernel
theorem dX9_look_177 : decode cX9_look 177 = .ok (.getfield 167, 3) := by decide +kernel
theorem dX9_look_180 : decode cX9_look 180 = .ok (.getfield 171, 3) := by decide +kernel
theorem dX9_look_183 : decode cX9_look 183 = .ok (.ireturn, 1) := by decide +kernel
theorem dX9_look_184 : decode cX9_look 184 = .ok (.aload_n 0, 1) := by decide +kernel
theorem dX9_look_185 : decode cX9_look 185 = .ok (.getfield 12, 3) := by decide +kernel
theorem dX9_look_188 : decode cX9_look 188 = .ok (.getfield 283, 3) := by decide +kernel
theorem dX9_look_191 : decode cX9_look 191 = .ok (.getfield 171, 3) := by decide +kernel
theorem dX9_look_194 : decode cX9_look 194 = .ok (.ireturn, 1) := by decide +kernel
theorem dX9_look_195 : decode cX9_look 195 = .ok (.aload_n 0, 1) := by decide +kernel
theorem dX9_look_196 : decode cX9_look 196 = .ok (.getfield 25, 3) := by decide +kernel
theorem dX9_look_199 : decode cX9_look 199 = .ok (.getfield 341, 3) := by decide +kernel
theorem dX9_look_202 : decode cX9_look 202 = .ok (.ireturn, 1) := by decide +kernel
theorem dX9_look_203 : decode cX9_look 203 = .ok (.aload_n 0, 1) := by decide +kernel
theorem dX9_look_204 : decode cX9_look 204 = .ok (.getfield 12, 3) := by decide +kernel
theorem dX9_look_207 : decode cX9_look 207 = .ok (.invokevirtual 233, 3) := by decide +kernel
theorem dX9_look_210 : decode cX9_look 210 = .ok (.ireturn, 1) := by decide +kernel
theorem dX9_look_211 : decode cX9_look 211 = .ok (.iconst (-1), 1) := by decide +kernel
theorem dX9_look_212 : decode cX9_look 212 = .ok (.ireturn, 1) := by decide +kernel
theorem dX10_init_0 : decode cX10_init 0 = .ok (.aload_n 0, 1) := by decide +kernel
theorem dX10_init_1 : decode cX10_init 1 = .ok (.invokespecial 1, 3) := by decide +kernel
theorem dX10_init_4 : decode cX10_init 4 = .ok (.aload_n 0, 1) := by decide +kernel
theorem dX10_init_5 : decode cX10_init 5 = .ok (.sipush 2232, 3) := by decide +kernel
theorem dX10_init_8 : decode cX10_init 8 = .ok (.newarray .int, 2) := by decide +kernel
theorem dX10_init_10 : decode cX10_init 10 = .ok (.putfield 7, 3) := by decide +kernel
theorem dX10_init_13 : decode cX10_init 13 = .ok (.aload_n 0, 1) := by decide +kernel
theorem dX10_init_14 : decode cX10_init 14 = .ok (.sipush 2232, 3) := by decide +kernel
theorem dX10_init_17 : decode cX10_init 17 = .ok (.newarray .int, 2) := by decide +kernel
theorem dX10_init_19 : decode cX10_init 19 = .ok (.putfield 13, 3) := by decide +kernel
theorem dX10_init_22 : decode cX10_init 22 = .ok (.aload_n 0, 1) := by decide +kernel
theorem dX10_init_23 : decode cX10_init 23 = .ok (.sipush 372, 3) := by decide +kernel
theorem dX10_init_26 : decode cX10_init 26 = .ok (.newarray .int, 2) := by decide +kernel
theorem dX10_init_28 : decode cX10_init 28 = .ok (.putfield 16, 3) := by decide +kernel
theorem dX10_init_31 : decode cX10_init 31 = .ok (.aload_n 0, 1) := by decide +kernel
theorem dX10_init_32 : decode cX10_init 32 = .ok (.bipush 62, 2) := by decide +kernel
theorem dX10_init_34 : decode cX10_init 34 = .ok (.newarray .int, 2) := by decide +kernel
theorem dX10_init_36 : decode cX10_init 36 = .ok (.putfield 19, 3) := by decide +kernel
theorem dX10_init_39 : decode cX10_init 39 = .ok (.aload_n 0, 1) := by decide +kernel
theorem dX10_init_40 : decode cX10_init 40 = .ok (.bipush 64, 2) := by decide +kernel
theorem dX10_init_42 : decode cX10_init 42 = .ok (.newarray .int, 2) := by decide +kernel
theorem dX10_init_44 : decode cX10_init 44 = .ok (.putfield 22, 3) := by decide +kernel
theorem dX10_init_47 : decode cX10_init 47 = .ok (.aload_n 0, 1) := by decide +kernel
theorem dX10_init_48 : decode cX10_init 48 = .ok (.sipush 820, 3) := by decide +kernel
theorem dX10_init_51 : decode cX10_init 51 = .ok (.newarray .int, 2) := by decide +kernel
theorem dX10_init_53 : decode cX10_init 53 = .ok (.putfield 25, 3) := by decide +kernel
theorem dX10_init_56 : decode cX10_init 56 = .ok (.aload_n 0, 1) := by decide +kernel
theorem dX10_init_57 : decode cX10_init 57 = .ok (.bipush 10, 2) := by decide +kernel
theorem dX10_init_59 : decode cX10_init 59 = .ok (.newarray .int, 2) := by decide +kernel
theorem dX10_init_61 : decode cX10_init 61 = .ok (.putfield 28, 3) := by decide +kernel
theorem dX10_init_64 : decode cX10_init 64 = .ok (.aload_n 0, 1) := by decide +kernel
theorem dX10_init_65 : decode cX10_init 65 = .ok (.sipush 420, 3) := by decide +kernel
theorem dX10_init_68 : decode cX10_init 68 = .ok (.newarray .int, 2) := by decide +kernel
theorem dX10_init_70 : decode cX10_init 70 = .ok (.putfield 31, 3) := by decide +kernel
theorem dX10_init_73 : decode cX10_init 73 = .ok (.aload_n 0, 1) := by decide +kernel
theorem dX10_init_74 : decode cX10_init 74 = .ok (.bipush 64, 2) := by decide +kernel
theorem dX10_init_76 : decode cX10_init 76 = .ok (.newarray .int, 2) := by decide +kernel
theorem dX10_init_78 : decode cX10_init 78 = .ok (.putfield 34, 3) := by decide +kernel
theorem dX10_init_81 : decode cX10_init 81 = .ok (.aload_n 0, 1) := by decide +kernel
theorem dX10_init_82 : decode cX10_init 82 = .ok (.sipush 400, 3) := by decide +kernel
theorem dX10_init_85 : decode cX10_init 85 = .ok (.newarray .int, 2) := by decide +kernel
theorem dX10_init_87 : decode cX10_init 87 = .ok (.putfield 37, 3) := by decide +kernel
theorem dX10_init_90 : decode cX10_init 90 = .ok (.aload_n 0, 1) := by decide +kernel
theorem dX10_init_91 : decode cX10_init 91 = .ok (.sipush 420, 3) := by decide +kernel
theorem dX10_init_94 : decode cX10_init 94 = .ok (.newarray .int, 2) := by decide +kernel
theorem dX10_init_96 : decode cX10_init 96 = .ok (.putfield 40, 3) := by decide +kernel
theorem dX10_init_99 : decode cX10_init 99 = .ok (.aload_n 0, 1) := by decide +kernel
theorem dX10_init_100 : decode cX10_init 100 = .ok (.bipush 9, 2) := by decide +kernel
theorem dX10_init_102 : decode cX10_init 102 = .ok (.newarray .int, 2) := by decide +kernel
theorem dX10_init_104 : decode cX10_init 104 = .ok (.putfield 43, 3) := by decide +kernel
theorem dX10_init_107 : decode cX10_init 107 = .ok (.aload_n 0, 1) := by decide +kernel
theorem dX10_init_108 : decode cX10_init 108 = .ok (.iconst (-1), 1) := by decide +kernel
theorem dX10_init_109 : decode cX10_init 109 = .ok (.putfield 46, 3) := by decide +kernel
theorem dX10_init_112 : decode cX10_init 112 = .ok (.aload_n 0, 1) := by decide +kernel
theorem dX10_init_113 : decode cX10_init 113 = .ok (.bipush 60, 2) := by decide +kernel
theorem dX10_init_115 : decode cX10_init 115 = .ok (.newarray .int, 2) := by decide +kernel
theorem dX10_init_117 : decode cX10_init 117 = .ok (.putfield 50, 3) := by decide +kernel
theorem dX10_init_120 : decode cX10_init 120 = .ok (.aload_n 0, 1) := by decide +kernel
theorem dX10_init_121 : decode cX10_init 121 = .ok (.bipush 6, 2) := by decide +kernel
theorem dX10_init_123 : decode cX10_init 123 = .ok (.newarray .int, 2) := by decide +kernel
theorem dX10_init_125 : decode cX10_init 125 = .ok (.putfield 53, 3) := by decide +kernel
theorem dX10_init_128 : decode cX10_init 128 = .ok (.aload_n 0, 1) := by decide +kernel
theorem dX10_init_129 : decode cX10_init 129 = .ok (.bipush 6, 2) := by decide +kernel
theorem dX10_init_131 : decode cX10_init 131 = .ok (.newarray .int, 2) := by decide +kernel
theorem dX10_init_133 : decode cX10_init 133 = .ok (.putfield 56, 3) := by decide +kernel
theorem dX10_init_136 : decode cX10_init 136 = .ok (.iconst 0, 1) := by decide +kernel
theorem dX10_init_137 : decode cX10_init 137 = .ok (.istore_n 1, 1) := by decide +kernel
theorem dX10_init_138 : decode cX10_init 138 = .ok (.iload_n 1, 1) := by decide +kernel
theorem dX10_init_139 : decode cX10_init 139 = .ok (.bipush 10, 2) := by decide +kernel
theorem dX10_init_141 : decode cX10_init 141 = .ok (.if_icmp .ge 48, 3) := by decide +kernel
theorem dX10_init_144 : decode cX10_init 144 = .ok (.iconst 0, 1) := by decide +kernel
theorem dX10_init_145 : decode cX10_init 145 = .ok (.istore_n 2, 1) := by decide +kernel
theorem dX10_init_146 : decode cX10_init 146 = .ok (.iload_n 2, 1) := by decide +kernel
theorem dX10_init_147 : decode cX10_init 147 = .ok (.bipush 10, 2) := by decide +kernel
theorem dX10_init_149 : decode cX10_init 149 = .ok (.if_icmp .ge 34, 3) := by decide +kernel
theorem dX10_init_152 : decode cX10_init 152 = .ok (.aload_n 0, 1) := by decide +kernel
theorem dX10_init_153 : decode cX10_init 153 = .ok (.getfield 7, 3) := by decide +kernel
theorem dX10_init_156 : decode cX10_init 156 = .ok (.bipush 98, 2) := by decide +kernel
theorem dX10_init_158 : decode cX10_init 158 = .ok (.bipush 10, 2) := by decide +kernel
theorem dX10_init_160 : decode cX10_init 160 = .ok (.iload_n 1, 1) := by decide +kernel
theorem dX10_init_161 : decode cX10_init 161 = .ok (.imul, 1) := by decide +kernel
theorem dX10_init_162 : decode cX10_init 162 = .ok (.iadd, 1) := by decide +kernel
theorem dX10_init_163 : decode cX10_init 163 = .ok (.iload_n 2, 1) := by decide +kernel
theorem dX10_init_164 : decode cX10_init 164 = .ok (.iadd, 1) := by decide +kernel
theorem dX10_init_165 : decode cX10_init 165 = .ok (.iload_n 1, 1) := by decide +kernel
theorem dX10_init_166 : decode cX10_init 166 = .ok (.iload_n 2, 1) := by decide +kernel
theorem dX10_init_167 : decode cX10_init 167 = .ok (.if_icmp .ne 7, 3) := by decide +kernel
theorem dX10_init_170 : decode cX10_init 170 = .ok (.iconst 0, 1) := by decide +kernel
theorem dX10_init_171 : decode cX10_init 171 = .ok (.goto 5, 3) := by decide +kernel
theorem dX10_init_174 : decode cX10_init 174 = .ok (.bipush 10, 2) := by decide +kernel
theorem dX10_init_176 : decode cX10_init 176 = .ok (.iastore, 1) := by decide +kernel
theorem dX10_init_177 : decode cX10_init 177 = .ok (.iinc 2 1, 3) := by decide +kernel
theorem dX10_init_180 : decode cX10_init 180 = .ok (.goto (-34), 3) := by decide +kernel
theorem dX10_init_183 : decode cX10_init 183 = .ok (.iinc 1 1, 3) := by decide +kernel
theorem dX10_init_186 : decode cX10_init 186 = .ok (.goto (-48), 3) := by decide +kernel
theorem dX10_init_189 : decode cX10_init 189 = .ok (.return_, 1) := by decide +kernel
theorem dX10_isIn_0 : decode cX10_isIn 0 = .ok (.iload_n 0, 1) := by decide +kernel
theorem dX10_isIn_1 : decode cX10_isIn 1 = .ok (.iload_n 1, 1) := by decide +kernel
theorem dX10_isIn_2 : decode cX10_isIn 2 = .ok (.if_icmp .lt 12, 3) := by decide +kernel
theorem dX10_isIn_5 : decode cX10_isIn 5 = .ok (.iload_n 0, 1) := by decide +kernel
theorem dX10_isIn_6 : decode cX10_isIn 6 = .ok (.iload_n 2, 1) := by decide +kernel
theorem dX10_isIn_7 : decode cX10_isIn 7 = .ok (.if_icmp .gt 7, 3) := by decide +kernel
theorem dX10_isIn_10 : decode cX10_isIn 10 = .ok (.iconst 1, 1) := by decide +kernel
theorem dX10_isIn_11 : decode cX10_isIn 11 = .ok (.goto 4, 3) := by decide +kernel
theorem dX10_isIn_14 : decode cX10_isIn 14 = .ok (.iconst 0, 1) := by decide +kernel
theorem dX10_isIn_15 : decode cX10_isIn 15 = .ok (.ireturn, 1) := by decide +kernel
theorem dX10_lesser_0 : decode cX10_lesser 0 = .ok (.iload_n 0, 1) := by decide +kernel
theorem dX10_lesser_1 : decode cX10_lesser 1 = .ok (.iload_n 1, 1) := by decide +kernel
theorem dX10_lesser_2 : decode cX10_lesser 2 = .ok (.if_icmp .ge 7, 3) := by decide +kernel
theorem dX10_lesser_5 : decode cX10_lesser 5 = .ok (.iload_n 0, 1) := by decide +kernel
theorem dX10_lesser_6 : decode cX10_lesser 6 = .ok (.goto 4, 3) := by decide +kernel
theorem dX10_lesser_9 : decode cX10_lesser 9 = .ok (.iload_n 1, 1) := by decide +kernel
theorem dX10_lesser_10 : decode cX10_lesser 10 = .ok (.ireturn, 1) := by decide +kernel
theorem dX10_greater_0 : decode cX10_greater 0 = .ok (.iload_n 0, 1) := by decide +kernel
theorem dX10_greater_1 : decode cX10_greater 1 = .ok (.iload_n 1, 1) := by decide +kernel
theorem dX10_greater_2 : decode cX10_greater 2 = .ok (.if_icmp .le 7, 3) := by decide +kernel
theorem dX10_greater_5 : decode cX10_greater 5 = .ok (.iload_n 0, 1) := by decide +kernel
theorem dX10_greater_6 : decode cX10_greater 6 = .ok (.goto 4, 3) := by decide +kernel
theorem dX10_greater_9 : decode cX10_greater 9 = .ok (.iload_n 1, 1) := by decide +kernel
theorem dX10_greater_10 : decode cX10_greater 10 = .ok (.ireturn, 1) := by decide +kernel
theorem dX10_isWord_0 : decode cX10_isWord 0 = .ok (.iload_n 1, 1) := by decide +kernel
theorem dX10_isWord_1 : decode cX10_isWord 1 = .ok (.iconst 0, 1) := by decide +kernel
theorem dX10_isWord_2 : decode cX10_isWord 2 = .ok (.aload_n 0, 1) := by decide +kernel
theorem dX10_isWord_3 : decode cX10_isWord 3 = .ok (.getfield 7, 3) := by decide +kernel
theorem dX10_isWord_6 : decode cX10_isWord 6 = .ok (.bipush 62, 2) := by decide +kernel
theorem dX10_isWord_8 : decode cX10_isWord 8 = .ok (.iaload, 1) := by decide +kernel
theorem dX10_isWord_9 : decode cX10_isWord 9 = .ok (.iconst 1, 1) := by decide +kernel
theorem dX10_isWord_10 : decode cX10_isWord 10 = .ok (.isub, 1) := by decide +kernel
theorem dX10_isWord_11 : decode cX10_isWord 11 = .ok (.invokestatic 59, 3) := by decide +kernel
theorem dX10_isWord_14 : decode cX10_isWord 14 = .ok (.ireturn, 1) := by decide +kernel
theorem dX10_isPerson_0 : decode cX10_isPerson 0 = .ok (.iload_n 1, 1) := by decide +kernel
theorem dX10_isPerson_1 : decode cX10_isPerson 1 = .ok (.iconst 0, 1) := by decide +kernel
theorem dX10_isPerson_2 : decode cX10_isPerson 2 = .ok (.aload_n 0, 1) := by decide +kernel
theorem dX10_isPerson_3 : decode cX10_isPerson 3 = .ok (.getfield 7, 3) := by decide +kernel
theorem dX10_isPerson_6 : decode cX10_isPerson 6 = .ok (.bipush 63, 2) := by decide +kernel
theorem dX10_isPerson_8 : decode cX10_isPerson 8 = .ok (.iaload, 1) := by decide +kernel
theorem dX10_isPerson_9 : decode cX10_isPerson 9 = .ok (.iconst 1, 1) := by decide +kernel
theorem dX10_isPerson_10 : decode cX10_isPerson 10 = .ok (.isub, 1) := by decide +kernel
theorem dX10_isPerson_11 : decode cX10_isPerson 11 = .ok (.invokestatic 59, 3) := by decide +kernel
theorem dX10_isPerson_14 : decode cX10_isPerson 14 = .ok (.ireturn, 1) := by decide +kernel
theorem dX10_isPlace_0 : decode cX10_isPlace 0 = .ok (.iload_n 0, 1) := by decide +kernel
theorem dX10_isPlace_1 : decode cX10_isPlace 1 = .ok (.iconst 0, 1) := by decide +kernel
theorem dX10_isPlace_2 : decode cX10_isPlace 2 = .ok (.bipush 9, 2) := by decide +kernel
theorem dX10_isPlace_4 : decode cX10_isPlace 4 = .ok (.invokestatic 59, 3) := by decide +kernel
theorem dX10_isPlace_7 : decode cX10_isPlace 7 = .ok (.ireturn, 1) := by decide +kernel
theorem dX10_hasLapsed_0 : decode cX10_hasLapsed 0 = .ok (.aload_n 0, 1) := by decide +kernel
theorem dX10_hasLapsed_1 : decode cX10_hasLapsed 1 = .ok (.getfield 7, 3) := by decide +kernel
theorem dX10_hasLapsed_4 : decode cX10_hasLapsed 4 = .ok (.iconst 3, 1) := by decide +kernel
theorem dX10_hasLapsed_5 : decode cX10_hasLapsed 5 = .ok (.iaload, 1) := by decide +kernel
theorem dX10_hasLapsed_6 : decode cX10_hasLapsed 6 = .ok (.iload_n 1, 1) := by decide +kernel
theorem dX10_hasLapsed_7 : decode cX10_hasLapsed 7 = .ok (.ishr, 1) := by decide +kernel
theorem dX10_hasLapsed_8 : decode cX10_hasLapsed 8 = .ok (.iconst 1, 1) := by decide +kernel
theorem dX10_hasLapsed_9 : decode cX10_hasLapsed 9 = .ok (.iand, 1) := by decide +kernel
theorem dX10_hasLapsed_10 : decode cX10_hasLapsed 10 = .ok (.iconst 1, 1) := by decide +kernel
theorem dX10_hasLapsed_11 : decode cX10_hasLapsed 11 = .ok (.if_icmp .ne 7, 3) := by decide +kernel
theorem dX10_hasLapsed_14 : decode cX10_hasLapsed 14 = .ok (.iconst 1, 1) := by decide +kernel
theorem dX10_hasLapsed_15 : decode cX10_hasLapsed 15 = .ok (.goto 4, 3) := by decide +kernel
theorem dX10_hasLapsed_18 : decode cX10_hasLapsed 18 = .ok (.iconst 0, 1) := by decide +kernel
theorem dX10_hasLapsed_19 : decode cX10_hasLapsed 19 = .ok (.ireturn, 1) := by decide +kernel
theorem dX10_has_0 : decode cX10_has 0 = .ok (.aload_n 0, 1) := by decide +kernel
theorem dX10_has_1 : decode cX10_has 1 = .ok (.getfield 7, 3) := by decide +kernel
theorem dX10_has_4 : decode cX10_has 4 = .ok (.bipush 42, 2) := by decide +kernel
theorem dX10_has_6 : decode cX10_has 6 = .ok (.iload_n 1, 1) := by decide +kernel
theorem dX10_has_7 : decode cX10_has 7 = .ok (.iadd, 1) := by decide +kernel
theorem dX10_has_8 : decode cX10_has 8 = .ok (.iaload, 1) := by decide +kernel
theorem dX10_has_9 : decode cX10_has 9 = .ok (.iload_n 2, 1) := by decide +kernel
theorem dX10_has_10 : decode cX10_has 10 = .ok (.ishr, 1) := by decide +kernel
theorem dX10_has_11 : decode cX10_has 11 = .ok (.iconst 1, 1) := by decide +kernel
theorem dX10_has_12 : decode cX10_has 12 = .ok (.iand, 1) := by decide +kernel
theorem dX10_has_13 : decode cX10_has 13 = .ok (.iconst 1, 1) := by decide +kernel
theorem dX10_has_14 : decode cX10_has 14 = .ok (.if_icmp .ne 7, 3) := by decide +kernel
theorem dX10_has_17 : decode cX10_has 17 = .ok (.iconst 1, 1) := by decide +kernel
theorem dX10_has_18 : decode cX10_has 18 = .ok (.goto 4, 3) := by decide +kernel
theorem dX10_has_21 : decode cX10_has 21 = .ok (.iconst 0, 1) := by decide +kernel
theorem dX10_has_22 : decode cX10_has 22 = .ok (.ireturn, 1) := by decide +kernel
theorem dX10_count_0 : decode cX10_count 0 = .ok (.iconst 0, 1) := by decide +kernel
theorem dX10_count_1 : decode cX10_count 1 = .ok (.istore_n 1, 1) := by decide +kernel
theorem dX10_count_2 : decode cX10_count 2 = .ok (.iconst 0, 1) := by decide +kernel
theorem dX10_count_3 : decode cX10_count 3 = .ok (.istore_n 2, 1) := by decide +kernel
theorem dX10_count_4 : decode cX10_count 4 = .ok (.iload_n 2, 1) := by decide +kernel
theorem dX10_count_5 : decode cX10_count 5 = .ok (.bipush 16, 2) := by decide +kernel
theorem dX10_count_7 : decode cX10_count 7 = .ok (.if_icmp .ge 17, 3) := by decide +kernel
theorem dX10_count_10 : decode cX10_count 10 = .ok (.iload_n 1, 1) := by decide +kernel
theorem dX10_count_11 : decode cX10_count 11 = .ok (.iload_n 0, 1) := by decide +kernel
theorem dX10_count_12 : decode cX10_count 12 = .ok (.iload_n 2, 1) := by decide +kernel
theorem dX10_count_13 : decode cX10_count 13 = .ok (.ishr, 1) := by decide +kernel
theorem dX10_count_14 : decode cX10_count 14 = .ok (.iconst 1, 1) := by decide +kernel
theorem dX10_count_15 : decode cX10_count 15 = .ok (.iand, 1) := by decide +kernel
theorem dX10_count_16 : decode cX10_count 16 = .ok (.iadd, 1) := by decide +kernel
theorem dX10_count_17 : decode cX10_count 17 = .ok (.istore_n 1, 1) := by decide +kernel
theorem dX10_count_18 : decode cX10_count 18 = .ok (.iinc 2 1, 3) := by decide +kernel
theorem dX10_count_21 : decode cX10_count 21 = .ok (.goto (-17), 3) := by decide +kernel
theorem dX10_count_24 : decode cX10_count 24 = .ok (.iload_n 1, 1) := by decide +kernel
theorem dX10_count_25 : decode cX10_count 25 = .ok (.ireturn, 1) := by decide +kernel
theorem dX10_living_0 : decode cX10_living 0 = .ok (.iconst 1, 1) := by decide +kernel
theorem dX10_living_1 : decode cX10_living 1 = .ok (.aload_n 0, 1) := by decide +kernel
theorem dX10_living_2 : decode cX10_living 2 = .ok (.getfield 7, 3) := by decide +kernel
theorem dX10_living_5 : decode cX10_living 5 = .ok (.bipush 62, 2) := by decide +kernel
theorem dX10_living_7 : decode cX10_living 7 = .ok (.iaload, 1) := by decide +kernel
theorem dX10_living_8 : decode cX10_living 8 = .ok (.ishl, 1) := by decide +kernel
theorem dX10_living_9 : decode cX10_living 9 = .ok (.iconst 1, 1) := by decide +kernel
theorem dX10_living_10 : decode cX10_living 10 = .ok (.isub, 1) := by decide +kernel
theorem dX10_living_11 : decode cX10_living 11 = .ok (.aload_n 0, 1) := by decide +kernel
theorem dX10_living_12 : decode cX10_living 12 = .ok (.getfield 7, 3) := by decide +kernel
theorem dX10_living_15 : decode cX10_living 15 = .ok (.iconst 3, 1) := by decide +kernel
theorem dX10_living_16 : decode cX10_living 16 = .ok (.iaload, 1) := by decide +kernel
theorem dX10_living_17 : decode cX10_living 17 = .ok (.iconst (-1), 1) := by decide +kernel
theorem dX10_living_18 : decode cX10_living 18 = .ok (.ixor, 1) := by decide +kernel
theorem dX10_living_19 : decode cX10_living 19 = .ok (.iand, 1) := by decide +kernel
theorem dX10_living_20 : decode cX10_living 20 = .ok (.ireturn, 1) := by decide +kernel
theorem dX10_forgets_0 : decode cX10_forgets 0 = .ok (.aload_n 0, 1) := by decide +kernel
theorem dX10_forgets_1 : decode cX10_forgets 1 = .ok (.iconst 0, 1) := by decide +kernel
theorem dX10_forgets_2 : decode cX10_forgets 2 = .ok (.putfield 63, 3) := by decide +kernel
theorem dX10_forgets_5 : decode cX10_forgets 5 = .ok (.return_, 1) := by decide +kernel
theorem dX10_state_0 : decode cX10_state 0 = .ok (.aload_n 0, 1) := by decide +kernel
theorem dX10_state_1 : decode cX10_state 1 = .ok (.getfield 7, 3) := by decide +kernel
theorem dX10_state_4 : decode cX10_state 4 = .ok (.iconst 1, 1) := by decide +kernel
theorem dX10_state_5 : decode cX10_state 5 = .ok (.iaload, 1) := by decide +kernel
theorem dX10_state_6 : decode cX10_state 6 = .ok (.istore_n 2, 1) := by decide +kernel
theorem dX10_state_7 : decode cX10_state 7 = .ok (.aload_n 0, 1) := by decide +kernel
theorem dX10_state_8 : decode cX10_state 8 = .ok (.getfield 7, 3) := by decide +kernel
theorem dX10_state_11 : decode cX10_state 11 = .ok (.iconst 1, 1) := by decide +kernel
theorem dX10_state_12 : decode cX10_state 12 = .ok (.iload_n 1, 1) := by decide +kernel
theorem dX10_state_13 : decode cX10_state 13 = .ok (.iastore, 1) := by decide +kernel
theorem dX10_state_14 : decode cX10_state 14 = .ok (.aload_n 0, 1) := by decide +kernel
theorem dX10_state_15 : decode cX10_state 15 = .ok (.invokevirtual 66, 3) := by decide +kernel
theorem dX10_state_18 : decode cX10_state 18 = .ok (.iload_n 2, 1) := by decide +kernel
theorem dX10_state_19 : decode cX10_state 19 = .ok (.ireturn, 1) := by decide +kernel
theorem dX10_draw_0 : decode cX10_draw 0 = .ok (.aload_n 0, 1) := by decide +kernel
theorem dX10_draw_1 : decode cX10_draw 1 = .ok (.getfield 7, 3) := by decide +kernel
theorem dX10_draw_4 : decode cX10_draw 4 = .ok (.iconst 1, 1) := by decide +kernel
theorem dX10_draw_5 : decode cX10_draw 5 = .ok (.ldc 69, 2) := by decide +kernel
theorem dX10_draw_7 : decode cX10_draw 7 = .ok (.aload_n 0, 1) := by decide +kernel
theorem dX10_draw_8 : decode cX10_draw 8 = .ok (.getfield 7, 3) := by decide +kernel
theorem dX10_draw_11 : decode cX10_draw 11 = .ok (.iconst 1, 1) := by decide +kernel
theorem dX10_draw_12 : decode cX10_draw 12 = .ok (.iaload, 1) := by decide +kernel
theorem dX10_draw_13 : decode cX10_draw 13 = .ok (.imul, 1) := by decide +kernel
theorem dX10_draw_14 : decode cX10_draw 14 = .ok (.ldc 70, 2) := by decide +kernel
theorem dX10_draw_16 : decode cX10_draw 16 = .ok (.iadd, 1) := by decide +kernel
theorem dX10_draw_17 : decode cX10_draw 17 = .ok (.iastore, 1) := by decide +kernel
theorem dX10_draw_18 : decode cX10_draw 18 = .ok (.aload_n 0, 1) := by decide +kernel
theorem dX10_draw_19 : decode cX10_draw 19 = .ok (.getfield 7, 3) := by decide +kernel
theorem dX10_draw_22 : decode cX10_draw 22 = .ok (.iconst 1, 1) := by decide +kernel
theorem dX10_draw_23 : decode cX10_draw 23 = .ok (.iaload, 1) := by decide +kernel
theorem dX10_draw_24 : decode cX10_draw 24 = .ok (.bipush 8, 2) := by decide +kernel
theorem dX10_draw_26 : decode cX10_draw 26 = .ok (.iushr, 1) := by decide +kernel
theorem dX10_draw_27 : decode cX10_draw 27 = .ok (.iload_n 1, 1) := by decide +kernel
theorem dX10_draw_28 : decode cX10_draw 28 = .ok (.irem, 1) := by decide +kernel
theorem dX10_draw_29 : decode cX10_draw 29 = .ok (.ireturn, 1) := by decide +kernel
theorem dX10_word_0 : decode cX10_word 0 = .ok (.iload_n 1, 1) := by decide +kernel
theorem dX10_word_1 : decode cX10_word 1 = .ok (.iconst 1, 1) := by decide +kernel
theorem dX10_word_2 : decode cX10_word 2 = .ok (.bipush 20, 2) := by decide +kernel
theorem dX10_word_4 : decode cX10_word 4 = .ok (.invokestatic 59, 3) := by decide +kernel
theorem dX10_word_7 : decode cX10_word 7 = .ok (.ifCond .eq 15, 3) := by decide +kernel
theorem dX10_word_10 : decode cX10_word 10 = .ok (.aload_n 0, 1) := by decide +kernel
theorem dX10_word_11 : decode cX10_word 11 = .ok (.getfield 7, 3) := by decide +kernel
theorem dX10_word_14 : decode cX10_word 14 = .ok (.bipush 62, 2) := by decide +kernel
theorem dX10_word_16 : decode cX10_word 16 = .ok (.iaload, 1) := by decide +kernel
theorem dX10_word_17 : decode cX10_word 17 = .ok (.bipush 14, 2) := by decide +kernel
theorem dX10_word_19 : decode cX10_word 19 = .ok (.if_icmp .ne 5, 3) := by decide +kernel
theorem dX10_word_22 : decode cX10_word 22 = .ok (.iconst (-1), 1) := by decide +kernel
theorem dX10_word_23 : decode cX10_word 23 = .ok (.ireturn, 1) := by decide +kernel
theorem dX10_word_24 : decode cX10_word 24 = .ok (.aload_n 0, 1) := by decide +kernel
theorem dX10_word_25 : decode cX10_word 25 = .ok (.getfield 7, 3) := by decide +kernel
theorem dX10_word_28 : decode cX10_word 28 = .ok (.bipush 62, 2) := by decide +kernel
theorem dX10_word_30 : decode cX10_word 30 = .ok (.iaload, 1) := by decide +kernel
theorem dX10_word_31 : decode cX10_word 31 = .ok (.istore_n 2, 1) := by decide +kernel
theorem dX10_word_32 : decode cX10_word 32 = .ok (.aload_n 0, 1) := by decide +kernel
theorem dX10_word_33 : decode cX10_word 33 = .ok (.getfield 7, 3) := by decide +kernel
theorem dX10_word_36 : decode cX10_word 36 = .ok (.bipush 70, 2) := by decide +kernel
theorem dX10_word_38 : decode cX10_word 38 = .ok (.iload_n 2, 1) := by decide +kernel
theorem dX10_word_39 : decode cX10_word 39 = .ok (.iadd, 1) := by decide +kernel
theorem dX10_word_40 : decode cX10_word 40 = .ok (.iload_n 1, 1) := by decide +kernel
theorem dX10_word_41 : decode cX10_word 41 = .ok (.iastore, 1) := by decide +kernel
theorem dX10_word_42 : decode cX10_word 42 = .ok (.aload_n 0, 1) := by decide +kernel
theorem dX10_word_43 : decode cX10_word 43 = .ok (.getfield 7, 3) := by decide +kernel
theorem dX10_word_46 : decode cX10_word 46 = .ok (.iconst 4, 1) := by decide +kernel
theorem dX10_word_47 : decode cX10_word 47 = .ok (.iload_n 2, 1) := by decide +kernel
theorem dX10_word_48 : decode cX10_word 48 = .ok (.iadd, 1) := by decide +kernel
theorem dX10_word_49 : decode cX10_word 49 = .ok (.iconst 0, 1) := by decide +kernel
theorem dX10_word_50 : decode cX10_word 50 = .ok (.iastore, 1) := by decide +kernel
theorem dX10_word_51 : decode cX10_word 51 = .ok (.aload_n 0, 1) := by decide +kernel
theorem dX10_word_52 : decode cX10_word 52 = .ok (.getfield 7, 3) := by decide +kernel
theorem dX10_word_55 : decode cX10_word 55 = .ok (.bipush 18, 2) := by decide +kernel
theorem dX10_word_57 : decode cX10_word 57 = .ok (.iload_n 2, 1) := by decide +kernel
theorem dX10_word_58 : decode cX10_word 58 = .ok (.iadd, 1) := by decide +kernel
theorem dX10_word_59 : decode cX10_word 59 = .ok (.iconst 0, 1) := by decide +kernel
theorem dX10_word_60 : decode cX10_word 60 = .ok (.iastore, 1) := by decide +kernel
theorem dX10_word_61 : decode cX10_word 61 = .ok (.aload_n 0, 1) := by decide +kernel
theorem dX10_word_62 : decode cX10_word 62 = .ok (.getfield 7, 3) := by decide +kernel
theorem dX10_word_65 : decode cX10_word 65 = .ok (.bipush 84, 2) := by decide +kernel
theorem dX10_word_67 : decode cX10_word 67 = .ok (.iload_n 2, 1) := by decide +kernel
theorem dX10_word_68 : decode cX10_word 68 = .ok (.iadd, 1) := by decide +kernel
theorem dX10_word_69 : decode cX10_word 69 = .ok (.iconst 0, 1) := by decide +kernel
theorem dX10_word_70 : decode cX10_word 70 = .ok (.iastore, 1) := by decide +kernel
theorem dX10_word_71 : decode cX10_word 71 = .ok (.aload_n 0, 1) := by decide +kernel
theorem dX10_word_72 : decode cX10_word 72 = .ok (.getfield 7, 3) := by decide +kernel
theorem dX10_word_75 : decode cX10_word 75 = .ok (.bipush 62, 2) := by decide +kernel
theorem dX10_word_77 : decode cX10_word 77 = .ok (.dup2, 1) := by decide +kernel
theorem dX10_word_78 : decode cX10_word 78 = .ok (.iaload, 1) := by decide +kernel
theorem dX10_word_79 : decode cX10_word 79 = .ok (.iconst 1, 1) := by decide +kernel
theorem dX10_word_80 : decode cX10_word 80 = .ok (.iadd, 1) := by decide +kernel
theorem dX10_word_81 : decode cX10_word 81 = .ok (.iastore, 1) := by decide +kernel
theorem dX10_word_82 : decode cX10_word 82 = .ok (.aload_n 0, 1) := by decide +kernel
theorem dX10_word_83 : decode cX10_word 83 = .ok (.invokevirtual 66, 3) := by decide +kernel
theorem dX10_word_86 : decode cX10_word 86 = .ok (.iload_n 2, 1) := by decide +kernel
theorem dX10_word_87 : decode cX10_word 87 = .ok (.ireturn, 1) := by decide +kernel
theorem dX10_person_0 : decode cX10_person 0 = .ok (.iload_n 1, 1) := by decide +kernel
theorem dX10_person_1 : decode cX10_person 1 = .ok (.invokestatic 71, 3) := by decide +kernel
theorem dX10_person_4 : decode cX10_person 4 = .ok (.ifCond .eq 15, 3) := by decide +kernel
theorem dX10_person_7 : decode cX10_person 7 = .ok (.aload_n 0, 1) := by decide +kernel
theorem dX10_person_8 : decode cX10_person 8 = .ok (.getfield 7, 3) := by decide +kernel
theorem dX10_person_11 : decode cX10_person 11 = .ok (.bipush 63, 2) := by decide +kernel
theorem dX10_person_13 : decode cX10_person 13 = .ok (.iaload, 1) := by decide +kernel
theorem dX10_person_14 : decode cX10_person 14 = .ok (.bipush 10, 2) := by decide +kernel
theorem dX10_person_16 : decode cX10_person 16 = .ok (.if_icmp .ne 5, 3) := by decide +kernel
theorem dX10_person_19 : decode cX10_person 19 = .ok (.iconst (-1), 1) := by decide +kernel
theorem dX10_person_20 : decode cX10_person 20 = .ok (.ireturn, 1) := by decide +kernel
theorem dX10_person_21 : decode cX10_person 21 = .ok (.aload_n 0, 1) := by decide +kernel
theorem dX10_person_22 : decode cX10_person 22 = .ok (.getfield 7, 3) := by decide +kernel
theorem dX10_person_25 : decode cX10_person 25 = .ok (.bipush 63, 2) := by decide +kernel
theorem dX10_person_27 : decode cX10_person 27 = .ok (.iaload, 1) := by decide +kernel
theorem dX10_person_28 : decode cX10_person 28 = .ok (.istore_n 2, 1) := by decide +kernel
theorem dX10_person_29 : decode cX10_person 29 = .ok (.aload_n 0, 1) := by decide +kernel
theorem dX10_person_30 : decode cX10_person 30 = .ok (.getfield 7, 3) := by decide +kernel
theorem dX10_person_33 : decode cX10_person 33 = .ok (.bipush 32, 2) := by decide +kernel
theorem dX10_person_35 : decode cX10_person 35 = .ok (.iload_n 2, 1) := by decide +kernel
theorem dX10_person_36 : decode cX10_person 36 = .ok (.iadd, 1) := by decide +kernel
theorem dX10_person_37 : decode cX10_person 37 = .ok (.iload_n 1, 1) := by decide +kernel
theorem dX10_person_38 : decode cX10_person 38 = .ok (.iastore, 1) := by decide +kernel
theorem dX10_person_39 : decode cX10_person 39 = .ok (.aload_n 0, 1) := by decide +kernel
theorem dX10_person_40 : decode cX10_person 40 = .ok (.getfield 7, 3) := by decide +kernel
theorem dX10_person_43 : decode cX10_person 43 = .ok (.bipush 42, 2) := by decide +kernel
theorem dX10_person_45 : decode cX10_person 45 = .ok (.iload_n 2, 1) := by decide +kernel
theorem dX10_person_46 : decode cX10_person 46 = .ok (.iadd, 1) := by decide +kernel
theorem dX10_person_47 : decode cX10_person 47 = .ok (.iconst 0, 1) := by decide +kernel
theorem dX10_person_48 : decode cX10_person 48 = .ok (.iastore, 1) := by decide +kernel
theorem dX10_person_49 : decode cX10_person 49 = .ok (.aload_n 0, 1) := by decide +kernel
theorem dX10_person_50 : decode cX10_person 50 = .ok (.getfield 7, 3) := by decide +kernel
theorem dX10_person_53 : decode cX10_person 53 = .ok (.bipush 52, 2) := by decide +kernel
theorem dX10_person_55 : decode cX10_person 55 = .ok (.iload_n 2, 1) := by decide +kernel
theorem dX10_person_56 : decode cX10_person 56 = .ok (.iadd, 1) := by decide +kernel
theorem dX10_person_57 : decode cX10_person 57 = .ok (.bipush 50, 2) := by decide +kernel
theorem dX10_person_59 : decode cX10_person 59 = .ok (.iastore, 1) := by decide +kernel
theorem dX10_person_60 : decode cX10_person 60 = .ok (.aload_n 0, 1) := by decide +kernel
theorem dX10_person_61 : decode cX10_person 61 = .ok (.getfield 7, 3) := by decide +kernel
theorem dX10_person_64 : decode cX10_person 64 = .ok (.bipush 63, 2) := by decide +kernel
theorem dX10_person_66 : decode cX10_person 66 = .ok (.dup2, 1) := by decide +kernel
theorem dX10_person_67 : decode cX10_person 67 = .ok (.iaload, 1) := by decide +kernel
theorem dX10_person_68 : decode cX10_person 68 = .ok (.iconst 1, 1) := by decide +kernel
theorem dX10_person_69 : decode cX10_person 69 = .ok (.iadd, 1) := by decide +kernel
theorem dX10_person_70 : decode cX10_person 70 = .ok (.iastore, 1) := by decide +kernel
theorem dX10_person_71 : decode cX10_person 71 = .ok (.aload_n 0, 1) := by decide +kernel
theorem dX10_person_72 : decode cX10_person 72 = .ok (.invokevirtual 66, 3) := by decide +kernel
theorem dX10_person_75 : decode cX10_person 75 = .ok (.iload_n 2, 1) := by decide +kernel
theorem dX10_person_76 : decode cX10_person 76 = .ok (.ireturn, 1) := by decide +kernel
theorem dX10_set_0 : decode cX10_set 0 = .ok (.iload_n 1, 1) := by decide +kernel
theorem dX10_set_1 : decode cX10_set 1 = .ok (.tableswitch 117 0 2 #[27, 51, 84], 27) := by decide +kernel
theorem dX10_set_28 : decode cX10_set 28 = .ok (.iload_n 3, 1) := by decide +kernel
theorem dX10_set_29 : decode cX10_set 29 = .ok (.iconst 0, 1) := by decide +kernel
theorem dX10_set_30 : decode cX10_set 30 = .ok (.sipush 1000, 3) := by decide +kernel
theorem dX10_set_33 : decode cX10_set 33 = .ok (.invokestatic 59, 3) := by decide +kernel
theorem dX10_set_36 : decode cX10_set 36 = .ok (.ifCond .ne 5, 3) := by decide +kernel
theorem dX10_set_39 : decode cX10_set 39 = .ok (.iconst 0, 1) := by decide +kernel
theorem dX10_set_40 : decode cX10_set 40 = .ok (.ireturn, 1) := by decide +kernel
theorem dX10_set_41 : decode cX10_set 41 = .ok (.aload_n 0, 1) := by decide +kernel
theorem dX10_set_42 : decode cX10_set 42 = .ok (.getfield 7, 3) := by decide +kernel
theorem dX10_set_45 : decode cX10_set 45 = .ok (.bipush 64, 2) := by decide +kernel
theorem dX10_set_47 : decode cX10_set 47 = .ok (.iload_n 3, 1) := by decide +kernel
theorem dX10_set_48 : decode cX10_set 48 = .ok (.iastore, 1) := by decide +kernel
theorem dX10_set_49 : decode cX10_set 49 = .ok (.goto 71, 3) := by decide +kernel
theorem dX10_set_52 : decode cX10_set 52 = .ok (.aload_n 0, 1) := by decide +kernel
theorem dX10_set_53 : decode cX10_set 53 = .ok (.iload_n 2, 1) := by decide +kernel
theorem dX10_set_54 : decode cX10_set 54 = .ok (.invokevirtual 75, 3) := by decide +kernel
theorem dX10_set_57 : decode cX10_set 57 = .ok (.ifCond .eq 13, 3) := by decide +kernel
theorem dX10_set_60 : decode cX10_set 60 = .ok (.iload_n 3, 1) := by decide +kernel
theorem dX10_set_61 : decode cX10_set 61 = .ok (.iconst 0, 1) := by decide +kernel
theorem dX10_set_62 : decode cX10_set 62 = .ok (.bipush 99, 2) := by decide +kernel
theorem dX10_set_64 : decode cX10_set 64 = .ok (.invokestatic 59, 3) := by decide +kernel
theorem dX10_set_67 : decode cX10_set 67 = .ok (.ifCond .ne 5, 3) := by decide +kernel
theorem dX10_set_70 : decode cX10_set 70 = .ok (.iconst 0, 1) := by decide +kernel
theorem dX10_set_71 : decode cX10_set 71 = .ok (.ireturn, 1) := by decide +kernel
theorem dX10_set_72 : decode cX10_set 72 = .ok (.aload_n 0, 1) := by decide +kernel
theorem dX10_set_73 : decode cX10_set 73 = .ok (.getfield 7, 3) := by decide +kernel
theorem dX10_set_76 : decode cX10_set 76 = .ok (.bipush 52, 2) := by decide +kernel
theorem dX10_set_78 : decode cX10_set 78 = .ok (.iload_n 2, 1) := by decide +kernel
theorem dX10_set_79 : decode cX10_set 79 = .ok (.iadd, 1) := by decide +kernel
theorem dX10_set_80 : decode cX10_set 80 = .ok (.iload_n 3, 1) := by decide +kernel
theorem dX10_set_81 : decode cX10_set 81 = .ok (.iastore, 1) := by decide +kernel
theorem dX10_set_82 : decode cX10_set 82 = .ok (.goto 38, 3) := by decide +kernel
theorem dX10_set_85 : decode cX10_set 85 = .ok (.aload_n 0, 1) := by decide +kernel
theorem dX10_set_86 : decode cX10_set 86 = .ok (.iload_n 2, 1) := by decide +kernel
theorem dX10_set_87 : decode cX10_set 87 = .ok (.invokevirtual 78, 3) := by decide +kernel
theorem dX10_set_90 : decode cX10_set 90 = .ok (.ifCond .eq 14, 3) := by decide +kernel
theorem dX10_set_93 : decode cX10_set 93 = .ok (.iload_n 3, 1) := by decide +kernel
theorem dX10_set_94 : decode cX10_set 94 = .ok (.iconst 0, 1) := by decide +kernel
theorem dX10_set_95 : decode cX10_set 95 = .ok (.sipush 9999, 3) := by decide +kernel
theorem dX10_set_98 : decode cX10_set 98 = .ok (.invokestatic 59, 3) := by decide +kernel
theorem dX10_set_101 : decode cX10_set 101 = .ok (.ifCond .ne 5, 3) := by decide +kernel
theorem dX10_set_104 : decode cX10_set 104 = .ok (.iconst 0, 1) := by decide +kernel
theorem dX10_set_105 : decode cX10_set 105 = .ok (.ireturn, 1) := by decide +kernel
theorem dX10_set_106 : decode cX10_set 106 = .ok (.aload_n 0, 1) := by decide +kernel
theorem dX10_set_107 : decode cX10_set 107 = .ok (.getfield 7, 3) := by decide +kernel
theorem dX10_set_110 : decode cX10_set 110 = .ok (.iconst 4, 1) := by decide +kernel
theorem dX10_set_111 : decode cX10_set 111 = .ok (.iload_n 2, 1) := by decide +kernel
theorem dX10_set_112 : decode cX10_set 112 = .ok (.iadd, 1) := by decide +kernel
theorem dX10_set_113 : decode cX10_set 113 = .ok (.iload_n 3, 1) := by decide +kernel
theorem dX10_set_114 : decode cX10_set 114 = .ok (.iastore, 1) := by decide +kernel
theorem dX10_set_115 : decode cX10_set 115 = .ok (.goto 5, 3) := by decide +kernel
theorem dX10_set_118 : decode cX10_set 118 = .ok (.iconst 0, 1) := by decide +kernel
theorem dX10_set_119 : decode cX10_set 119 = .ok (.ireturn, 1) := by decide +kernel
theorem dX10_set_120 : decode cX10_set 120 = .ok (.aload_n 0, 1) := by decide +kernel
theorem dX10_set_121 : decode cX10_set 121 = .ok (.invokevirtual 66, 3) := by decide +kernel
theorem dX10_set_124 : decode cX10_set 124 = .ok (.iconst 1, 1) := by decide +kernel
theorem dX10_set_125 : decode cX10_set 125 = .ok (.ireturn, 1) := by decide +kernel
theorem dX10_kin_0 : decode cX10_kin 0 = .ok (.aload_n 0, 1) := by decide +kernel
theorem dX10_kin_1 : decode cX10_kin 1 = .ok (.iload_n 1, 1) := by decide +kernel
theorem dX10_kin_2 : decode cX10_kin 2 = .ok (.invokevirtual 78, 3) := by decide +kernel
theorem dX10_kin_5 : decode cX10_kin 5 = .ok (.ifCond .eq 16, 3) := by decide +kernel
theorem dX10_kin_8 : decode cX10_kin 8 = .ok (.aload_n 0, 1) := by decide +kernel
theorem dX10_kin_9 : decode cX10_kin 9 = .ok (.iload_n 2, 1) := by decide +kernel
theorem dX10_kin_10 : decode cX10_kin 10 = .ok (.invokevirtual 78, 3) := by decide +kernel
theorem dX10_kin_13 : decode cX10_kin 13 = .ok (.ifCond .eq 8, 3) := by decide +kernel
theorem dX10_kin_16 : decode cX10_kin 16 = .ok (.iload_n 1, 1) := by decide +kernel
theorem dX10_kin_17 : decode cX10_kin 17 = .ok (.iload_n 2, 1) := by decide +kernel
theorem dX10_kin_18 : decode cX10_kin 18 = .ok (.if_icmp .ne 5, 3) := by decide +kernel
theorem dX10_kin_21 : decode cX10_kin 21 = .ok (.iconst 0, 1) := by decide +kernel
theorem dX10_kin_22 : decode cX10_kin 22 = .ok (.ireturn, 1) := by decide +kernel
theorem dX10_kin_23 : decode cX10_kin 23 = .ok (.aload_n 0, 1) := by decide +kernel
theorem dX10_kin_24 : decode cX10_kin 24 = .ok (.getfield 7, 3) := by decide +kernel
theorem dX10_kin_27 : decode cX10_kin 27 = .ok (.bipush 84, 2) := by decide +kernel
theorem dX10_kin_29 : decode cX10_kin 29 = .ok (.iload_n 1, 1) := by decide +kernel
theorem dX10_kin_30 : decode cX10_kin 30 = .ok (.iadd, 1) := by decide +kernel
theorem dX10_kin_31 : decode cX10_kin 31 = .ok (.iload_n 3, 1) := by decide +kernel
theorem dX10_kin_32 : decode cX10_kin 32 = .ok (.ifCond .eq 19, 3) := by decide +kernel
theorem dX10_kin_35 : decode cX10_kin 35 = .ok (.aload_n 0, 1) := by decide +kernel
theorem dX10_kin_36 : decode cX10_kin 36 = .ok (.getfield 7, 3) := by decide +kernel
theorem dX10_kin_39 : decode cX10_kin 39 = .ok (.bipush 84, 2) := by decide +kernel
theorem dX10_kin_41 : decode cX10_kin 41 = .ok (.iload_n 1, 1) := by decide +kernel
theorem dX10_kin_42 : decode cX10_kin 42 = .ok (.iadd, 1) := by decide +kernel
theorem dX10_kin_43 : decode cX10_kin 43 = .ok (.iaload, 1) := by decide +kernel
theorem dX10_kin_44 : decode cX10_kin 44 = .ok (.iconst 1, 1) := by decide +kernel
theorem dX10_kin_45 : decode cX10_kin 45 = .ok (.iload_n 2, 1) := by decide +kernel
theorem dX10_kin_46 : decode cX10_kin 46 = .ok (.ishl, 1) := by decide +kernel
theorem dX10_kin_47 : decode cX10_kin 47 = .ok (.ior, 1) := by decide +kernel
theorem dX10_kin_48 : decode cX10_kin 48 = .ok (.goto 18, 3) := by decide +kernel
theorem dX10_kin_51 : decode cX10_kin 51 = .ok (.aload_n 0, 1) := by decide +kernel
theorem dX10_kin_52 : decode cX10_kin 52 = .ok (.getfield 7, 3) := by decide +kernel
theorem dX10_kin_55 : decode cX10_kin 55 = .ok (.bipush 84, 2) := by decide +kernel
theorem dX10_kin_57 : decode cX10_kin 57 = .ok (.iload_n 1, 1) := by decide +kernel
theorem dX10_kin_58 : decode cX10_kin 58 = .ok (.iadd, 1) := by decide +kernel
theorem dX10_kin_59 : decode cX10_kin 59 = .ok (.iaload, 1) := by decide +kernel
theorem dX10_kin_60 : decode cX10_kin 60 = .ok (.iconst 1, 1) := by decide +kernel
theorem dX10_kin_61 : decode cX10_kin 61 = .ok (.iload_n 2, 1) := by decide +kernel
theorem dX10_kin_62 : decode cX10_kin 62 = .ok (.ishl, 1) := by decide +kernel
theorem dX10_kin_63 : decode cX10_kin 63 = .ok (.iconst (-1), 1) := by decide +kernel
theorem dX10_kin_64 : decode cX10_kin 64 = .ok (.ixor, 1) := by decide +kernel
theorem dX10_kin_65 : decode cX10_kin 65 = .ok (.iand, 1) := by decide +kernel
theorem dX10_kin_66 : decode cX10_kin 66 = .ok (.iastore, 1) := by decide +kernel
theorem dX10_kin_67 : decode cX10_kin 67 = .ok (.aload_n 0, 1) := by decide +kernel
theorem dX10_kin_68 : decode cX10_kin 68 = .ok (.getfield 7, 3) := by decide +kernel
theorem dX10_kin_71 : decode cX10_kin 71 = .ok (.bipush 84, 2) := by decide +kernel
theorem dX10_kin_73 : decode cX10_kin 73 = .ok (.iload_n 2, 1) := by decide +kernel
theorem dX10_kin_74 : decode cX10_kin 74 = .ok (.iadd, 1) := by decide +kernel
theorem dX10_kin_75 : decode cX10_kin 75 = .ok (.iload_n 3, 1) := by decide +kernel
theorem dX10_kin_76 : decode cX10_kin 76 = .ok (.ifCond .eq 19, 3) := by decide +kernel
theorem dX10_kin_79 : decode cX10_kin 79 = .ok (.aload_n 0, 1) := by decide +kernel
theorem dX10_kin_80 : decode cX10_kin 80 = .ok (.getfield 7, 3) := by decide +kernel
theorem dX10_kin_83 : decode cX10_kin 83 = .ok (.bipush 84, 2) := by decide +kernel
theorem dX10_kin_85 : decode cX10_kin 85 = .ok (.iload_n 2, 1) := by decide +kernel
theorem dX10_kin_86 : decode cX10_kin 86 = .ok (.iadd, 1) := by decide +kernel
theorem dX10_kin_87 : decode cX10_kin 87 = .ok (.iaload, 1) := by decide +kernel
theorem dX10_kin_88 : decode cX10_kin 88 = .ok (.iconst 1, 1) := by decide +kernel
theorem dX10_kin_89 : decode cX10_kin 89 = .ok (.iload_n 1, 1) := by decide +kernel
theorem dX10_kin_90 : decode cX10_kin 90 = .ok (.ishl, 1) := by decide +kernel
theorem dX10_kin_91 : decode cX10_kin 91 = .ok (.ior, 1) := by decide +kernel
theorem dX10_kin_92 : decode cX10_kin 92 = .ok (.goto 18, 3) := by decide +kernel
theorem dX10_kin_95 : decode cX10_kin 95 = .ok (.aload_n 0, 1) := by decide +kernel
theorem dX10_kin_96 : decode cX10_kin 96 = .ok (.getfield 7, 3) := by decide +kernel
theorem dX10_kin_99 : decode cX10_kin 99 = .ok (.bipush 84, 2) := by decide +kernel
theorem dX10_kin_101 : decode cX10_kin 101 = .ok (.iload_n 2, 1) := by decide +kernel
theorem dX10_kin_102 : decode cX10_kin 102 = .ok (.iadd, 1) := by decide +kernel
theorem dX10_kin_103 : decode cX10_kin 103 = .ok (.iaload, 1) := by decide +kernel
theorem dX10_kin_104 : decode cX10_kin 104 = .ok (.iconst 1, 1) := by decide +kernel
theorem dX10_kin_105 : decode cX10_kin 105 = .ok (.iload_n 1, 1) := by decide +kernel
theorem dX10_kin_106 : decode cX10_kin 106 = .ok (.ishl, 1) := by decide +kernel
theorem dX10_kin_107 : decode cX10_kin 107 = .ok (.iconst (-1), 1) := by decide +kernel
theorem dX10_kin_108 : decode cX10_kin 108 = .ok (.ixor, 1) := by decide +kernel
theorem dX10_kin_109 : decode cX10_kin 109 = .ok (.iand, 1) := by decide +kernel
theorem dX10_kin_110 : decode cX10_kin 110 = .ok (.iastore, 1) := by decide +kernel
theorem dX10_kin_111 : decode cX10_kin 111 = .ok (.aload_n 0, 1) := by decide +kernel
theorem dX10_kin_112 : decode cX10_kin 112 = .ok (.invokevirtual 66, 3) := by decide +kernel
theorem dX10_kin_115 : decode cX10_kin 115 = .ok (.iconst 1, 1) := by decide +kernel
theorem dX10_kin_116 : decode cX10_kin 116 = .ok (.ireturn, 1) := by decide +kernel
theorem dX10_milesOf_0 : decode cX10_milesOf 0 = .ok (.aload_n 0, 1) := by decide +kernel
theorem dX10_milesOf_1 : decode cX10_milesOf 1 = .ok (.getfield 7, 3) := by decide +kernel
theorem dX10_milesOf_4 : decode cX10_milesOf 4 = .ok (.bipush 98, 2) := by decide +kernel
theorem dX10_milesOf_6 : decode cX10_milesOf 6 = .ok (.bipush 10, 2) := by decide +kernel
theorem dX10_milesOf_8 : decode cX10_milesOf 8 = .ok (.iload_n 1, 1) := by decide +kernel
theorem dX10_milesOf_9 : decode cX10_milesOf 9 = .ok (.imul, 1) := by decide +kernel
theorem dX10_milesOf_10 : decode cX10_milesOf 10 = .ok (.iadd, 1) := by decide +kernel
theorem dX10_milesOf_11 : decode cX10_milesOf 11 = .ok (.iload_n 2, 1) := by decide +kernel
theorem dX10_milesOf_12 : decode cX10_milesOf 12 = .ok (.iadd, 1) := by decide +kernel
theorem dX10_milesOf_13 : decode cX10_milesOf 13 = .ok (.iaload, 1) := by decide +kernel
theorem dX10_milesOf_14 : decode cX10_milesOf 14 = .ok (.ireturn, 1) := by decide +kernel
theorem dX10_miles_0 : decode cX10_miles 0 = .ok (.iload_n 1, 1) := by decide +kernel
theorem dX10_miles_1 : decode cX10_miles 1 = .ok (.invokestatic 71, 3) := by decide +kernel
theorem dX10_miles_4 : decode cX10_miles 4 = .ok (.ifCond .eq 25, 3) := by decide +kernel
theorem dX10_miles_7 : decode cX10_miles 7 = .ok (.iload_n 2, 1) := by decide +kernel
theorem dX10_miles_8 : decode cX10_miles 8 = .ok (.invokestatic 71, 3) := by decide +kernel
theorem dX10_miles_11 : decode cX10_miles 11 = .ok (.ifCond .eq 18, 3) := by decide +kernel
theorem dX10_miles_14 : decode cX10_miles 14 = .ok (.iload_n 1, 1) := by decide +kernel
theorem dX10_miles_15 : decode cX10_miles 15 = .ok (.iload_n 2, 1) := by decide +kernel
theorem dX10_miles_16 : decode cX10_miles 16 = .ok (.if_icmp .eq 13, 3) := by decide +kernel
theorem dX10_miles_19 : decode cX10_miles 19 = .ok (.iload_n 3, 1) := by decide +kernel
theorem dX10_miles_20 : decode cX10_miles 20 = .ok (.iconst 0, 1) := by decide +kernel
theorem dX10_miles_21 : decode cX10_miles 21 = .ok (.bipush 99, 2) := by decide +kernel
theorem dX10_miles_23 : decode cX10_miles 23 = .ok (.invokestatic 59, 3) := by decide +kernel
theorem dX10_miles_26 : decode cX10_miles 26 = .ok (.ifCond .ne 5, 3) := by decide +kernel
theorem dX10_miles_29 : decode cX10_miles 29 = .ok (.iconst 0, 1) := by decide +kernel
theorem dX10_miles_30 : decode cX10_miles 30 = .ok (.ireturn, 1) := by decide +kernel
theorem dX10_miles_31 : decode cX10_miles 31 = .ok (.aload_n 0, 1) := by decide +kernel
theorem dX10_miles_32 : decode cX10_miles 32 = .ok (.getfield 7, 3) := by decide +kernel
theorem dX10_miles_35 : decode cX10_miles 35 = .ok (.bipush 98, 2) := by decide +kernel
theorem dX10_miles_37 : decode cX10_miles 37 = .ok (.bipush 10, 2) := by decide +kernel
theorem dX10_miles_39 : decode cX10_miles 39 = .ok (.iload_n 1, 1) := by decide +kernel
theorem dX10_miles_40 : decode cX10_miles 40 = .ok (.imul, 1) := by decide +kernel
theorem dX10_miles_41 : decode cX10_miles 41 = .ok (.iadd, 1) := by decide +kernel
theorem dX10_miles_42 : decode cX10_miles 42 = .ok (.iload_n 2, 1) := by decide +kernel
theorem dX10_miles_43 : decode cX10_miles 43 = .ok (.iadd, 1) := by decide +kernel
theorem dX10_miles_44 : decode cX10_miles 44 = .ok (.iload_n 3, 1) := by decide +kernel
theorem dX10_miles_45 : decode cX10_miles 45 = .ok (.iastore, 1) := by decide +kernel
theorem dX10_miles_46 : decode cX10_miles 46 = .ok (.aload_n 0, 1) := by decide +kernel
theorem dX10_miles_47 : decode cX10_miles 47 = .ok (.getfield 7, 3) := by decide +kernel
theorem dX10_miles_50 : decode cX10_miles 50 = .ok (.bipush 98, 2) := by decide +kernel
theorem dX10_miles_52 : decode cX10_miles 52 = .ok (.bipush 10, 2) := by decide +kernel
theorem dX10_miles_54 : decode cX10_miles 54 = .ok (.iload_n 2, 1) := by decide +kernel
theorem dX10_miles_55 : decode cX10_miles 55 = .ok (.imul, 1) := by decide +kernel
theorem dX10_miles_56 : decode cX10_miles 56 = .ok (.iadd, 1) := by decide +kernel
theorem dX10_miles_57 : decode cX10_miles 57 = .ok (.iload_n 1, 1) := by decide +kernel
theorem dX10_miles_58 : decode cX10_miles 58 = .ok (.iadd, 1) := by decide +kernel
theorem dX10_miles_59 : decode cX10_miles 59 = .ok (.iload_n 3, 1) := by decide +kernel
theorem dX10_miles_60 : decode cX10_miles 60 = .ok (.iastore, 1) := by decide +kernel
theorem dX10_miles_61 : decode cX10_miles 61 = .ok (.aload_n 0, 1) := by decide +kernel
theorem dX10_miles_62 : decode cX10_miles 62 = .ok (.invokevirtual 66, 3) := by decide +kernel
theorem dX10_miles_65 : decode cX10_miles 65 = .ok (.iconst 1, 1) := by decide +kernel
theorem dX10_miles_66 : decode cX10_miles 66 = .ok (.ireturn, 1) := by decide +kernel
theorem dX10_feed_0 : decode cX10_feed 0 = .ok (.aload_n 0, 1) := by decide +kernel
theorem dX10_feed_1 : decode cX10_feed 1 = .ok (.getfield 81, 3) := by decide +kernel
