theorem dX10_feed_4 : decode cX10_feed 4 = .ok (.bipush 20, 2) := by decide +kernel
theorem dX10_feed_6 : decode cX10_feed 6 = .ok (.iadd, 1) := by decide +kernel
theorem dX10_feed_7 : decode cX10_feed 7 = .ok (.sipush 400, 3) := by decide +kernel
theorem dX10_feed_10 : decode cX10_feed 10 = .ok (.if_icmp .le 5, 3) := by decide +kernel
theorem dX10_feed_13 : decode cX10_feed 13 = .ok (.iconst (-1), 1) := by decide +kernel
theorem dX10_feed_14 : decode cX10_feed 14 = .ok (.ireturn, 1) := by decide +kernel
theorem dX10_feed_15 : decode cX10_feed 15 = .ok (.iconst 0, 1) := by decide +kernel
theorem dX10_feed_16 : decode cX10_feed 16 = .ok (.istore 6, 2) := by decide +kernel
theorem dX10_feed_18 : decode cX10_feed 18 = .ok (.iload 6, 2) := by decide +kernel
theorem dX10_feed_20 : decode cX10_feed 20 = .ok (.bipush 20, 2) := by decide +kernel
theorem dX10_feed_22 : decode cX10_feed 22 = .ok (.if_icmp .ge 93, 3) := by decide +kernel
theorem dX10_feed_25 : decode cX10_feed 25 = .ok (.iload 6, 2) := by decide +kernel
theorem dX10_feed_27 : decode cX10_feed 27 = .ok (.iconst 4, 1) := by decide +kernel
theorem dX10_feed_28 : decode cX10_feed 28 = .ok (.if_icmp .ge 7, 3) := by decide +kernel
theorem dX10_feed_31 : decode cX10_feed 31 = .ok (.iload_n 1, 1) := by decide +kernel
theorem dX10_feed_32 : decode cX10_feed 32 = .ok (.goto 39, 3) := by decide +kernel
theorem dX10_feed_35 : decode cX10_feed 35 = .ok (.iload 6, 2) := by decide +kernel
theorem dX10_feed_37 : decode cX10_feed 37 = .ok (.bipush 8, 2) := by decide +kernel
theorem dX10_feed_39 : decode cX10_feed 39 = .ok (.if_icmp .ge 7, 3) := by decide +kernel
theorem dX10_feed_42 : decode cX10_feed 42 = .ok (.iload_n 2, 1) := by decide +kernel
theorem dX10_feed_43 : decode cX10_feed 43 = .ok (.goto 28, 3) := by decide +kernel
theorem dX10_feed_46 : decode cX10_feed 46 = .ok (.iload 6, 2) := by decide +kernel
theorem dX10_feed_48 : decode cX10_feed 48 = .ok (.bipush 12, 2) := by decide +kernel
theorem dX10_feed_50 : decode cX10_feed 50 = .ok (.if_icmp .ge 7, 3) := by decide +kernel
theorem dX10_feed_53 : decode cX10_feed 53 = .ok (.iload_n 3, 1) := by decide +kernel
theorem dX10_feed_54 : decode cX10_feed 54 = .ok (.goto 17, 3) := by decide +kernel
theorem dX10_feed_57 : decode cX10_feed 57 = .ok (.iload 6, 2) := by decide +kernel
theorem dX10_feed_59 : decode cX10_feed 59 = .ok (.bipush 16, 2) := by decide +kernel
theorem dX10_feed_61 : decode cX10_feed 61 = .ok (.if_icmp .ge 8, 3) := by decide +kernel
theorem dX10_feed_64 : decode cX10_feed 64 = .ok (.iload 4, 2) := by decide +kernel
theorem dX10_feed_66 : decode cX10_feed 66 = .ok (.goto 5, 3) := by decide +kernel
theorem dX10_feed_69 : decode cX10_feed 69 = .ok (.iload 5, 2) := by decide +kernel
theorem dX10_feed_71 : decode cX10_feed 71 = .ok (.istore 7, 2) := by decide +kernel
theorem dX10_feed_73 : decode cX10_feed 73 = .ok (.aload_n 0, 1) := by decide +kernel
theorem dX10_feed_74 : decode cX10_feed 74 = .ok (.getfield 37, 3) := by decide +kernel
theorem dX10_feed_77 : decode cX10_feed 77 = .ok (.aload_n 0, 1) := by decide +kernel
theorem dX10_feed_78 : decode cX10_feed 78 = .ok (.getfield 81, 3) := by decide +kernel
theorem dX10_feed_81 : decode cX10_feed 81 = .ok (.iload 7, 2) := by decide +kernel
theorem dX10_feed_83 : decode cX10_feed 83 = .ok (.bipush 24, 2) := by decide +kernel
theorem dX10_feed_85 : decode cX10_feed 85 = .ok (.bipush 8, 2) := by decide +kernel
theorem dX10_feed_87 : decode cX10_feed 87 = .ok (.iload 6, 2) := by decide +kernel
theorem dX10_feed_89 : decode cX10_feed 89 = .ok (.iconst 4, 1) := by decide +kernel
theorem dX10_feed_90 : decode cX10_feed 90 = .ok (.irem, 1) := by decide +kernel
theorem dX10_feed_91 : decode cX10_feed 91 = .ok (.imul, 1) := by decide +kernel
theorem dX10_feed_92 : decode cX10_feed 92 = .ok (.isub, 1) := by decide +kernel
theorem dX10_feed_93 : decode cX10_feed 93 = .ok (.ishr, 1) := by decide +kernel
theorem dX10_feed_94 : decode cX10_feed 94 = .ok (.sipush 255, 3) := by decide +kernel
theorem dX10_feed_97 : decode cX10_feed 97 = .ok (.iand, 1) := by decide +kernel
theorem dX10_feed_98 : decode cX10_feed 98 = .ok (.iastore, 1) := by decide +kernel
theorem dX10_feed_99 : decode cX10_feed 99 = .ok (.aload_n 0, 1) := by decide +kernel
theorem dX10_feed_100 : decode cX10_feed 100 = .ok (.dup, 1) := by decide +kernel
theorem dX10_feed_101 : decode cX10_feed 101 = .ok (.getfield 81, 3) := by decide +kernel
theorem dX10_feed_104 : decode cX10_feed 104 = .ok (.iconst 1, 1) := by decide +kernel
theorem dX10_feed_105 : decode cX10_feed 105 = .ok (.iadd, 1) := by decide +kernel
theorem dX10_feed_106 : decode cX10_feed 106 = .ok (.putfield 81, 3) := by decide +kernel
theorem dX10_feed_109 : decode cX10_feed 109 = .ok (.iinc 6 1, 3) := by decide +kernel
theorem dX10_feed_112 : decode cX10_feed 112 = .ok (.goto (-94), 3) := by decide +kernel
theorem dX10_feed_115 : decode cX10_feed 115 = .ok (.aload_n 0, 1) := by decide +kernel
theorem dX10_feed_116 : decode cX10_feed 116 = .ok (.getfield 81, 3) := by decide +kernel
theorem dX10_feed_119 : decode cX10_feed 119 = .ok (.ireturn, 1) := by decide +kernel
theorem dX10_end_0 : decode cX10_end 0 = .ok (.iload_n 1, 1) := by decide +kernel
theorem dX10_end_1 : decode cX10_end 1 = .ok (.iconst 0, 1) := by decide +kernel
theorem dX10_end_2 : decode cX10_end 2 = .ok (.aload_n 0, 1) := by decide +kernel
theorem dX10_end_3 : decode cX10_end 3 = .ok (.getfield 81, 3) := by decide +kernel
theorem dX10_end_6 : decode cX10_end 6 = .ok (.invokestatic 59, 3) := by decide +kernel
theorem dX10_end_9 : decode cX10_end 9 = .ok (.ifCond .ne 5, 3) := by decide +kernel
theorem dX10_end_12 : decode cX10_end 12 = .ok (.iconst 0, 1) := by decide +kernel
theorem dX10_end_13 : decode cX10_end 13 = .ok (.ireturn, 1) := by decide +kernel
theorem dX10_end_14 : decode cX10_end 14 = .ok (.aload_n 0, 1) := by decide +kernel
theorem dX10_end_15 : decode cX10_end 15 = .ok (.iload_n 1, 1) := by decide +kernel
theorem dX10_end_16 : decode cX10_end 16 = .ok (.putfield 81, 3) := by decide +kernel
theorem dX10_end_19 : decode cX10_end 19 = .ok (.iconst 1, 1) := by decide +kernel
theorem dX10_end_20 : decode cX10_end 20 = .ok (.ireturn, 1) := by decide +kernel
theorem dX10_see_0 : decode cX10_see 0 = .ok (.iload_n 1, 1) := by decide +kernel
theorem dX10_see_1 : decode cX10_see 1 = .ok (.aload_n 0, 1) := by decide +kernel
theorem dX10_see_2 : decode cX10_see 2 = .ok (.getfield 81, 3) := by decide +kernel
theorem dX10_see_5 : decode cX10_see 5 = .ok (.if_icmp .ge 12, 3) := by decide +kernel
theorem dX10_see_8 : decode cX10_see 8 = .ok (.aload_n 0, 1) := by decide +kernel
theorem dX10_see_9 : decode cX10_see 9 = .ok (.getfield 37, 3) := by decide +kernel
theorem dX10_see_12 : decode cX10_see 12 = .ok (.iload_n 1, 1) := by decide +kernel
theorem dX10_see_13 : decode cX10_see 13 = .ok (.iaload, 1) := by decide +kernel
theorem dX10_see_14 : decode cX10_see 14 = .ok (.goto 4, 3) := by decide +kernel
theorem dX10_see_17 : decode cX10_see 17 = .ok (.iconst (-1), 1) := by decide +kernel
theorem dX10_see_18 : decode cX10_see 18 = .ok (.ireturn, 1) := by decide +kernel
theorem dX10_isLetter_0 : decode cX10_isLetter 0 = .ok (.iload_n 0, 1) := by decide +kernel
theorem dX10_isLetter_1 : decode cX10_isLetter 1 = .ok (.bipush 97, 2) := by decide +kernel
theorem dX10_isLetter_3 : decode cX10_isLetter 3 = .ok (.bipush 122, 2) := by decide +kernel
theorem dX10_isLetter_5 : decode cX10_isLetter 5 = .ok (.invokestatic 59, 3) := by decide +kernel
theorem dX10_isLetter_8 : decode cX10_isLetter 8 = .ok (.ifCond .ne 14, 3) := by decide +kernel
theorem dX10_isLetter_11 : decode cX10_isLetter 11 = .ok (.iload_n 0, 1) := by decide +kernel
theorem dX10_isLetter_12 : decode cX10_isLetter 12 = .ok (.bipush 65, 2) := by decide +kernel
theorem dX10_isLetter_14 : decode cX10_isLetter 14 = .ok (.bipush 90, 2) := by decide +kernel
theorem dX10_isLetter_16 : decode cX10_isLetter 16 = .ok (.invokestatic 59, 3) := by decide +kernel
theorem dX10_isLetter_19 : decode cX10_isLetter 19 = .ok (.ifCond .eq 7, 3) := by decide +kernel
theorem dX10_isLetter_22 : decode cX10_isLetter 22 = .ok (.iconst 1, 1) := by decide +kernel
theorem dX10_isLetter_23 : decode cX10_isLetter 23 = .ok (.goto 4, 3) := by decide +kernel
theorem dX10_isLetter_26 : decode cX10_isLetter 26 = .ok (.iconst 0, 1) := by decide +kernel
theorem dX10_isLetter_27 : decode cX10_isLetter 27 = .ok (.ireturn, 1) := by decide +kernel
theorem dX10_isDigit_0 : decode cX10_isDigit 0 = .ok (.iload_n 0, 1) := by decide +kernel
theorem dX10_isDigit_1 : decode cX10_isDigit 1 = .ok (.bipush 48, 2) := by decide +kernel
theorem dX10_isDigit_3 : decode cX10_isDigit 3 = .ok (.bipush 57, 2) := by decide +kernel
theorem dX10_isDigit_5 : decode cX10_isDigit 5 = .ok (.invokestatic 59, 3) := by decide +kernel
theorem dX10_isDigit_8 : decode cX10_isDigit 8 = .ok (.ireturn, 1) := by decide +kernel
theorem dX10_is_0 : decode cX10_is 0 = .ok (.aload_n 0, 1) := by decide +kernel
theorem dX10_is_1 : decode cX10_is 1 = .ok (.getfield 84, 3) := by decide +kernel
theorem dX10_is_4 : decode cX10_is 4 = .ok (.aload_n 0, 1) := by decide +kernel
theorem dX10_is_5 : decode cX10_is 5 = .ok (.getfield 87, 3) := by decide +kernel
theorem dX10_is_8 : decode cX10_is 8 = .ok (.isub, 1) := by decide +kernel
theorem dX10_is_9 : decode cX10_is 9 = .ok (.aload_n 1, 1) := by decide +kernel
theorem dX10_is_10 : decode cX10_is 10 = .ok (.invokevirtual 90, 3) := by decide +kernel
theorem dX10_is_13 : decode cX10_is 13 = .ok (.if_icmp .ne 7, 3) := by decide +kernel
theorem dX10_is_16 : decode cX10_is 16 = .ok (.iconst 1, 1) := by decide +kernel
theorem dX10_is_17 : decode cX10_is 17 = .ok (.goto 4, 3) := by decide +kernel
theorem dX10_is_20 : decode cX10_is 20 = .ok (.iconst 0, 1) := by decide +kernel
theorem dX10_is_21 : decode cX10_is 21 = .ok (.istore_n 2, 1) := by decide +kernel
theorem dX10_is_22 : decode cX10_is 22 = .ok (.iconst 0, 1) := by decide +kernel
theorem dX10_is_23 : decode cX10_is 23 = .ok (.istore_n 3, 1) := by decide +kernel
theorem dX10_is_24 : decode cX10_is 24 = .ok (.iload_n 3, 1) := by decide +kernel
theorem dX10_is_25 : decode cX10_is 25 = .ok (.aload_n 1, 1) := by decide +kernel
theorem dX10_is_26 : decode cX10_is 26 = .ok (.invokevirtual 90, 3) := by decide +kernel
theorem dX10_is_29 : decode cX10_is 29 = .ok (.if_icmp .ge 38, 3) := by decide +kernel
theorem dX10_is_32 : decode cX10_is 32 = .ok (.iload_n 2, 1) := by decide +kernel
theorem dX10_is_33 : decode cX10_is 33 = .ok (.ifCond .eq 34, 3) := by decide +kernel
theorem dX10_is_36 : decode cX10_is 36 = .ok (.aload_n 0, 1) := by decide +kernel
theorem dX10_is_37 : decode cX10_is 37 = .ok (.getfield 37, 3) := by decide +kernel
theorem dX10_is_40 : decode cX10_is 40 = .ok (.aload_n 0, 1) := by decide +kernel
theorem dX10_is_41 : decode cX10_is 41 = .ok (.getfield 87, 3) := by decide +kernel
theorem dX10_is_44 : decode cX10_is 44 = .ok (.iload_n 3, 1) := by decide +kernel
theorem dX10_is_45 : decode cX10_is 45 = .ok (.iadd, 1) := by decide +kernel
theorem dX10_is_46 : decode cX10_is 46 = .ok (.iaload, 1) := by decide +kernel
theorem dX10_is_47 : decode cX10_is 47 = .ok (.aload_n 1, 1) := by decide +kernel
theorem dX10_is_48 : decode cX10_is 48 = .ok (.iload_n 3, 1) := by decide +kernel
theorem dX10_is_49 : decode cX10_is 49 = .ok (.invokevirtual 96, 3) := by decide +kernel
theorem dX10_is_52 : decode cX10_is 52 = .ok (.if_icmp .ne 7, 3) := by decide +kernel
theorem dX10_is_55 : decode cX10_is 55 = .ok (.iconst 1, 1) := by decide +kernel
theorem dX10_is_56 : decode cX10_is 56 = .ok (.goto 4, 3) := by decide +kernel
theorem dX10_is_59 : decode cX10_is 59 = .ok (.iconst 0, 1) := by decide +kernel
theorem dX10_is_60 : decode cX10_is 60 = .ok (.istore_n 2, 1) := by decide +kernel
theorem dX10_is_61 : decode cX10_is 61 = .ok (.iinc 3 1, 3) := by decide +kernel
theorem dX10_is_64 : decode cX10_is 64 = .ok (.goto (-40), 3) := by decide +kernel
theorem dX10_is_67 : decode cX10_is 67 = .ok (.iload_n 2, 1) := by decide +kernel
theorem dX10_is_68 : decode cX10_is 68 = .ok (.ireturn, 1) := by decide +kernel
theorem dX10_asked_0 : decode cX10_asked 0 = .ok (.aload_n 0, 1) := by decide +kernel
theorem dX10_asked_1 : decode cX10_asked 1 = .ok (.ldc 100, 2) := by decide +kernel
theorem dX10_asked_3 : decode cX10_asked 3 = .ok (.invokevirtual 102, 3) := by decide +kernel
theorem dX10_asked_6 : decode cX10_asked 6 = .ok (.ifCond .eq 6, 3) := by decide +kernel
theorem dX10_asked_9 : decode cX10_asked 9 = .ok (.bipush 41, 2) := by decide +kernel
theorem dX10_asked_11 : decode cX10_asked 11 = .ok (.ireturn, 1) := by decide +kernel
theorem dX10_asked_12 : decode cX10_asked 12 = .ok (.aload_n 0, 1) := by decide +kernel
theorem dX10_asked_13 : decode cX10_asked 13 = .ok (.ldc 106, 2) := by decide +kernel
theorem dX10_asked_15 : decode cX10_asked 15 = .ok (.invokevirtual 102, 3) := by decide +kernel
theorem dX10_asked_18 : decode cX10_asked 18 = .ok (.ifCond .eq 6, 3) := by decide +kernel
theorem dX10_asked_21 : decode cX10_asked 21 = .ok (.bipush 42, 2) := by decide +kernel
theorem dX10_asked_23 : decode cX10_asked 23 = .ok (.ireturn, 1) := by decide +kernel
theorem dX10_asked_24 : decode cX10_asked 24 = .ok (.aload_n 0, 1) := by decide +kernel
theorem dX10_asked_25 : decode cX10_asked 25 = .ok (.ldc 108, 2) := by decide +kernel
theorem dX10_asked_27 : decode cX10_asked 27 = .ok (.invokevirtual 102, 3) := by decide +kernel
theorem dX10_asked_30 : decode cX10_asked 30 = .ok (.ifCond .eq 6, 3) := by decide +kernel
theorem dX10_asked_33 : decode cX10_asked 33 = .ok (.bipush 43, 2) := by decide +kernel
theorem dX10_asked_35 : decode cX10_asked 35 = .ok (.ireturn, 1) := by decide +kernel
theorem dX10_asked_36 : decode cX10_asked 36 = .ok (.aload_n 0, 1) := by decide +kernel
theorem dX10_asked_37 : decode cX10_asked 37 = .ok (.ldc 110, 2) := by decide +kernel
theorem dX10_asked_39 : decode cX10_asked 39 = .ok (.invokevirtual 102, 3) := by decide +kernel
theorem dX10_asked_42 : decode cX10_asked 42 = .ok (.ifCond .eq 6, 3) := by decide +kernel
theorem dX10_asked_45 : decode cX10_asked 45 = .ok (.bipush 44, 2) := by decide +kernel
theorem dX10_asked_47 : decode cX10_asked 47 = .ok (.ireturn, 1) := by decide +kernel
theorem dX10_asked_48 : decode cX10_asked 48 = .ok (.aload_n 0, 1) := by decide +kernel
theorem dX10_asked_49 : decode cX10_asked 49 = .ok (.ldc 112, 2) := by decide +kernel
theorem dX10_asked_51 : decode cX10_asked 51 = .ok (.invokevirtual 102, 3) := by decide +kernel
theorem dX10_asked_54 : decode cX10_asked 54 = .ok (.ifCond .eq 6, 3) := by decide +kernel
theorem dX10_asked_57 : decode cX10_asked 57 = .ok (.bipush 45, 2) := by decide +kernel
theorem dX10_asked_59 : decode cX10_asked 59 = .ok (.ireturn, 1) := by decide +kernel
theorem dX10_asked_60 : decode cX10_asked 60 = .ok (.aload_n 0, 1) := by decide +kernel
theorem dX10_asked_61 : decode cX10_asked 61 = .ok (.ldc 114, 2) := by decide +kernel
theorem dX10_asked_63 : decode cX10_asked 63 = .ok (.invokevirtual 102, 3) := by decide +kernel
theorem dX10_asked_66 : decode cX10_asked 66 = .ok (.ifCond .eq 6, 3) := by decide +kernel
theorem dX10_asked_69 : decode cX10_asked 69 = .ok (.bipush 46, 2) := by decide +kernel
theorem dX10_asked_71 : decode cX10_asked 71 = .ok (.ireturn, 1) := by decide +kernel
theorem dX10_asked_72 : decode cX10_asked 72 = .ok (.aload_n 0, 1) := by decide +kernel
theorem dX10_asked_73 : decode cX10_asked 73 = .ok (.ldc 116, 2) := by decide +kernel
theorem dX10_asked_75 : decode cX10_asked 75 = .ok (.invokevirtual 102, 3) := by decide +kernel
theorem dX10_asked_78 : decode cX10_asked 78 = .ok (.ifCond .eq 6, 3) := by decide +kernel
theorem dX10_asked_81 : decode cX10_asked 81 = .ok (.bipush 47, 2) := by decide +kernel
theorem dX10_asked_83 : decode cX10_asked 83 = .ok (.ireturn, 1) := by decide +kernel
theorem dX10_asked_84 : decode cX10_asked 84 = .ok (.aload_n 0, 1) := by decide +kernel
theorem dX10_asked_85 : decode cX10_asked 85 = .ok (.ldc 117, 2) := by decide +kernel
theorem dX10_asked_87 : decode cX10_asked 87 = .ok (.invokevirtual 102, 3) := by decide +kernel
theorem dX10_asked_90 : decode cX10_asked 90 = .ok (.ifCond .eq 8, 3) := by decide +kernel
theorem dX10_asked_93 : decode cX10_asked 93 = .ok (.bipush 48, 2) := by decide +kernel
theorem dX10_asked_95 : decode cX10_asked 95 = .ok (.goto 4, 3) := by decide +kernel
theorem dX10_asked_98 : decode cX10_asked 98 = .ok (.iconst 1, 1) := by decide +kernel
theorem dX10_asked_99 : decode cX10_asked 99 = .ok (.ireturn, 1) := by decide +kernel
theorem dX10_lawWord_0 : decode cX10_lawWord 0 = .ok (.aload_n 0, 1) := by decide +kernel
theorem dX10_lawWord_1 : decode cX10_lawWord 1 = .ok (.ldc 119, 2) := by decide +kernel
theorem dX10_lawWord_3 : decode cX10_lawWord 3 = .ok (.invokevirtual 102, 3) := by decide +kernel
theorem dX10_lawWord_6 : decode cX10_lawWord 6 = .ok (.ifCond .eq 5, 3) := by decide +kernel
theorem dX10_lawWord_9 : decode cX10_lawWord 9 = .ok (.iconst 3, 1) := by decide +kernel
theorem dX10_lawWord_10 : decode cX10_lawWord 10 = .ok (.ireturn, 1) := by decide +kernel
theorem dX10_lawWord_11 : decode cX10_lawWord 11 = .ok (.aload_n 0, 1) := by decide +kernel
theorem dX10_lawWord_12 : decode cX10_lawWord 12 = .ok (.ldc 121, 2) := by decide +kernel
theorem dX10_lawWord_14 : decode cX10_lawWord 14 = .ok (.invokevirtual 102, 3) := by decide +kernel
theorem dX10_lawWord_17 : decode cX10_lawWord 17 = .ok (.ifCond .eq 5, 3) := by decide +kernel
theorem dX10_lawWord_20 : decode cX10_lawWord 20 = .ok (.iconst 4, 1) := by decide +kernel
theorem dX10_lawWord_21 : decode cX10_lawWord 21 = .ok (.ireturn, 1) := by decide +kernel
theorem dX10_lawWord_22 : decode cX10_lawWord 22 = .ok (.aload_n 0, 1) := by decide +kernel
theorem dX10_lawWord_23 : decode cX10_lawWord 23 = .ok (.ldc 123, 2) := by decide +kernel
theorem dX10_lawWord_25 : decode cX10_lawWord 25 = .ok (.invokevirtual 102, 3) := by decide +kernel
theorem dX10_lawWord_28 : decode cX10_lawWord 28 = .ok (.ifCond .eq 5, 3) := by decide +kernel
theorem dX10_lawWord_31 : decode cX10_lawWord 31 = .ok (.iconst 5, 1) := by decide +kernel
theorem dX10_lawWord_32 : decode cX10_lawWord 32 = .ok (.ireturn, 1) := by decide +kernel
theorem dX10_lawWord_33 : decode cX10_lawWord 33 = .ok (.aload_n 0, 1) := by decide +kernel
theorem dX10_lawWord_34 : decode cX10_lawWord 34 = .ok (.ldc 125, 2) := by decide +kernel
theorem dX10_lawWord_36 : decode cX10_lawWord 36 = .ok (.invokevirtual 102, 3) := by decide +kernel
theorem dX10_lawWord_39 : decode cX10_lawWord 39 = .ok (.ifCond .eq 6, 3) := by decide +kernel
theorem dX10_lawWord_42 : decode cX10_lawWord 42 = .ok (.bipush 6, 2) := by decide +kernel
theorem dX10_lawWord_44 : decode cX10_lawWord 44 = .ok (.ireturn, 1) := by decide +kernel
theorem dX10_lawWord_45 : decode cX10_lawWord 45 = .ok (.aload_n 0, 1) := by decide +kernel
theorem dX10_lawWord_46 : decode cX10_lawWord 46 = .ok (.ldc 127, 2) := by decide +kernel
theorem dX10_lawWord_48 : decode cX10_lawWord 48 = .ok (.invokevirtual 102, 3) := by decide +kernel
theorem dX10_lawWord_51 : decode cX10_lawWord 51 = .ok (.ifCond .eq 6, 3) := by decide +kernel
theorem dX10_lawWord_54 : decode cX10_lawWord 54 = .ok (.bipush 20, 2) := by decide +kernel
theorem dX10_lawWord_56 : decode cX10_lawWord 56 = .ok (.ireturn, 1) := by decide +kernel
theorem dX10_lawWord_57 : decode cX10_lawWord 57 = .ok (.aload_n 0, 1) := by decide +kernel
theorem dX10_lawWord_58 : decode cX10_lawWord 58 = .ok (.ldc 129, 2) := by decide +kernel
theorem dX10_lawWord_60 : decode cX10_lawWord 60 = .ok (.invokevirtual 102, 3) := by decide +kernel
theorem dX10_lawWord_63 : decode cX10_lawWord 63 = .ok (.ifCond .eq 6, 3) := by decide +kernel
theorem dX10_lawWord_66 : decode cX10_lawWord 66 = .ok (.bipush 21, 2) := by decide +kernel
theorem dX10_lawWord_68 : decode cX10_lawWord 68 = .ok (.ireturn, 1) := by decide +kernel
theorem dX10_lawWord_69 : decode cX10_lawWord 69 = .ok (.aload_n 0, 1) := by decide +kernel
theorem dX10_lawWord_70 : decode cX10_lawWord 70 = .ok (.ldc 131, 2) := by decide +kernel
theorem dX10_lawWord_72 : decode cX10_lawWord 72 = .ok (.invokevirtual 102, 3) := by decide +kernel
theorem dX10_lawWord_75 : decode cX10_lawWord 75 = .ok (.ifCond .eq 8, 3) := by decide +kernel
theorem dX10_lawWord_78 : decode cX10_lawWord 78 = .ok (.bipush 22, 2) := by decide +kernel
theorem dX10_lawWord_80 : decode cX10_lawWord 80 = .ok (.goto 7, 3) := by decide +kernel
theorem dX10_lawWord_83 : decode cX10_lawWord 83 = .ok (.aload_n 0, 1) := by decide +kernel
theorem dX10_lawWord_84 : decode cX10_lawWord 84 = .ok (.invokevirtual 133, 3) := by decide +kernel
theorem dX10_lawWord_87 : decode cX10_lawWord 87 = .ok (.ireturn, 1) := by decide +kernel
theorem dX10_walkWord_0 : decode cX10_walkWord 0 = .ok (.aload_n 0, 1) := by decide +kernel
theorem dX10_walkWord_1 : decode cX10_walkWord 1 = .ok (.ldc 136, 2) := by decide +kernel
theorem dX10_walkWord_3 : decode cX10_walkWord 3 = .ok (.invokevirtual 102, 3) := by decide +kernel
theorem dX10_walkWord_6 : decode cX10_walkWord 6 = .ok (.ifCond .eq 6, 3) := by decide +kernel
theorem dX10_walkWord_9 : decode cX10_walkWord 9 = .ok (.bipush 8, 2) := by decide +kernel
theorem dX10_walkWord_11 : decode cX10_walkWord 11 = .ok (.ireturn, 1) := by decide +kernel
theorem dX10_walkWord_12 : decode cX10_walkWord 12 = .ok (.aload_n 0, 1) := by decide +kernel
theorem dX10_walkWord_13 : decode cX10_walkWord 13 = .ok (.ldc 138, 2) := by decide +kernel
theorem dX10_walkWord_15 : decode cX10_walkWord 15 = .ok (.invokevirtual 102, 3) := by decide +kernel
theorem dX10_walkWord_18 : decode cX10_walkWord 18 = .ok (.ifCond .eq 6, 3) := by decide +kernel
theorem dX10_walkWord_21 : decode cX10_walkWord 21 = .ok (.bipush 9, 2) := by decide +kernel
theorem dX10_walkWord_23 : decode cX10_walkWord 23 = .ok (.ireturn, 1) := by decide +kernel
theorem dX10_walkWord_24 : decode cX10_walkWord 24 = .ok (.aload_n 0, 1) := by decide +kernel
theorem dX10_walkWord_25 : decode cX10_walkWord 25 = .ok (.ldc 140, 2) := by decide +kernel
theorem dX10_walkWord_27 : decode cX10_walkWord 27 = .ok (.invokevirtual 102, 3) := by decide +kernel
theorem dX10_walkWord_30 : decode cX10_walkWord 30 = .ok (.ifCond .eq 6, 3) := by decide +kernel
theorem dX10_walkWord_33 : decode cX10_walkWord 33 = .ok (.bipush 10, 2) := by decide +kernel
theorem dX10_walkWord_35 : decode cX10_walkWord 35 = .ok (.ireturn, 1) := by decide +kernel
theorem dX10_walkWord_36 : decode cX10_walkWord 36 = .ok (.aload_n 0, 1) := by decide +kernel
theorem dX10_walkWord_37 : decode cX10_walkWord 37 = .ok (.ldc 142, 2) := by decide +kernel
theorem dX10_walkWord_39 : decode cX10_walkWord 39 = .ok (.invokevirtual 102, 3) := by decide +kernel
theorem dX10_walkWord_42 : decode cX10_walkWord 42 = .ok (.ifCond .eq 8, 3) := by decide +kernel
theorem dX10_walkWord_45 : decode cX10_walkWord 45 = .ok (.bipush 11, 2) := by decide +kernel
theorem dX10_walkWord_47 : decode cX10_walkWord 47 = .ok (.goto 4, 3) := by decide +kernel
theorem dX10_walkWord_50 : decode cX10_walkWord 50 = .ok (.iconst 1, 1) := by decide +kernel
theorem dX10_walkWord_51 : decode cX10_walkWord 51 = .ok (.ireturn, 1) := by decide +kernel
theorem dX10_needWord_0 : decode cX10_needWord 0 = .ok (.aload_n 0, 1) := by decide +kernel
theorem dX10_needWord_1 : decode cX10_needWord 1 = .ok (.ldc 144, 2) := by decide +kernel
theorem dX10_needWord_3 : decode cX10_needWord 3 = .ok (.invokevirtual 102, 3) := by decide +kernel
theorem dX10_needWord_6 : decode cX10_needWord 6 = .ok (.ifCond .eq 6, 3) := by decide +kernel
theorem dX10_needWord_9 : decode cX10_needWord 9 = .ok (.bipush 12, 2) := by decide +kernel
theorem dX10_needWord_11 : decode cX10_needWord 11 = .ok (.ireturn, 1) := by decide +kernel
theorem dX10_needWord_12 : decode cX10_needWord 12 = .ok (.aload_n 0, 1) := by decide +kernel
theorem dX10_needWord_13 : decode cX10_needWord 13 = .ok (.ldc 146, 2) := by decide +kernel
theorem dX10_needWord_15 : decode cX10_needWord 15 = .ok (.invokevirtual 102, 3) := by decide +kernel
theorem dX10_needWord_18 : decode cX10_needWord 18 = .ok (.ifCond .eq 6, 3) := by decide +kernel
theorem dX10_needWord_21 : decode cX10_needWord 21 = .ok (.bipush 13, 2) := by decide +kernel
theorem dX10_needWord_23 : decode cX10_needWord 23 = .ok (.ireturn, 1) := by decide +kernel
theorem dX10_needWord_24 : decode cX10_needWord 24 = .ok (.aload_n 0, 1) := by decide +kernel
theorem dX10_needWord_25 : decode cX10_needWord 25 = .ok (.ldc 148, 2) := by decide +kernel
theorem dX10_needWord_27 : decode cX10_needWord 27 = .ok (.invokevirtual 102, 3) := by decide +kernel
theorem dX10_needWord_30 : decode cX10_needWord 30 = .ok (.ifCond .eq 8, 3) := by decide +kernel
theorem dX10_needWord_33 : decode cX10_needWord 33 = .ok (.bipush 14, 2) := by decide +kernel
theorem dX10_needWord_35 : decode cX10_needWord 35 = .ok (.goto 4, 3) := by decide +kernel
theorem dX10_needWord_38 : decode cX10_needWord 38 = .ok (.iconst 1, 1) := by decide +kernel
theorem dX10_needWord_39 : decode cX10_needWord 39 = .ok (.ireturn, 1) := by decide +kernel
theorem dX10_word0_0 : decode cX10_word0 0 = .ok (.aload_n 0, 1) := by decide +kernel
theorem dX10_word0_1 : decode cX10_word0 1 = .ok (.getfield 150, 3) := by decide +kernel
theorem dX10_word0_4 : decode cX10_word0 4 = .ok (.tableswitch 67 0 2 #[28, 57, 62], 28) := by decide +kernel
theorem dX10_word0_32 : decode cX10_word0 32 = .ok (.aload_n 0, 1) := by decide +kernel
theorem dX10_word0_33 : decode cX10_word0 33 = .ok (.ldc 153, 2) := by decide +kernel
theorem dX10_word0_35 : decode cX10_word0 35 = .ok (.invokevirtual 102, 3) := by decide +kernel
theorem dX10_word0_38 : decode cX10_word0 38 = .ok (.ifCond .eq 8, 3) := by decide +kernel
theorem dX10_word0_41 : decode cX10_word0 41 = .ok (.bipush 7, 2) := by decide +kernel
theorem dX10_word0_43 : decode cX10_word0 43 = .ok (.goto 17, 3) := by decide +kernel
theorem dX10_word0_46 : decode cX10_word0 46 = .ok (.aload_n 0, 1) := by decide +kernel
theorem dX10_word0_47 : decode cX10_word0 47 = .ok (.ldc 121, 2) := by decide +kernel
theorem dX10_word0_49 : decode cX10_word0 49 = .ok (.invokevirtual 102, 3) := by decide +kernel
theorem dX10_word0_52 : decode cX10_word0 52 = .ok (.ifCond .eq 7, 3) := by decide +kernel
theorem dX10_word0_55 : decode cX10_word0 55 = .ok (.iconst 4, 1) := by decide +kernel
theorem dX10_word0_56 : decode cX10_word0 56 = .ok (.goto 4, 3) := by decide +kernel
theorem dX10_word0_59 : decode cX10_word0 59 = .ok (.iconst 1, 1) := by decide +kernel
theorem dX10_word0_60 : decode cX10_word0 60 = .ok (.ireturn, 1) := by decide +kernel
theorem dX10_word0_61 : decode cX10_word0 61 = .ok (.aload_n 0, 1) := by decide +kernel
theorem dX10_word0_62 : decode cX10_word0 62 = .ok (.invokevirtual 155, 3) := by decide +kernel
theorem dX10_word0_65 : decode cX10_word0 65 = .ok (.ireturn, 1) := by decide +kernel
theorem dX10_word0_66 : decode cX10_word0 66 = .ok (.aload_n 0, 1) := by decide +kernel
theorem dX10_word0_67 : decode cX10_word0 67 = .ok (.invokevirtual 158, 3) := by decide +kernel
theorem dX10_word0_70 : decode cX10_word0 70 = .ok (.ireturn, 1) := by decide +kernel
theorem dX10_word0_71 : decode cX10_word0 71 = .ok (.aload_n 0, 1) := by decide +kernel
theorem dX10_word0_72 : decode cX10_word0 72 = .ok (.invokevirtual 161, 3) := by decide +kernel
theorem dX10_word0_75 : decode cX10_word0 75 = .ok (.ireturn, 1) := by decide +kernel
theorem dX10_next0_0 : decode cX10_next0 0 = .ok (.aload_n 0, 1) := by decide +kernel
theorem dX10_next0_1 : decode cX10_next0 1 = .ok (.aload_n 0, 1) := by decide +kernel
theorem dX10_next0_2 : decode cX10_next0 2 = .ok (.getfield 84, 3) := by decide +kernel
theorem dX10_next0_5 : decode cX10_next0 5 = .ok (.invokevirtual 164, 3) := by decide +kernel
theorem dX10_next0_8 : decode cX10_next0 8 = .ok (.bipush 32, 2) := by decide +kernel
theorem dX10_next0_10 : decode cX10_next0 10 = .ok (.if_icmp .eq 16, 3) := by decide +kernel
theorem dX10_next0_13 : decode cX10_next0 13 = .ok (.aload_n 0, 1) := by decide +kernel
theorem dX10_next0_14 : decode cX10_next0 14 = .ok (.aload_n 0, 1) := by decide +kernel
theorem dX10_next0_15 : decode cX10_next0 15 = .ok (.getfield 84, 3) := by decide +kernel
theorem dX10_next0_18 : decode cX10_next0 18 = .ok (.invokevirtual 164, 3) := by decide +kernel
theorem dX10_next0_21 : decode cX10_next0 21 = .ok (.bipush 10, 2) := by decide +kernel
theorem dX10_next0_23 : decode cX10_next0 23 = .ok (.if_icmp .ne 16, 3) := by decide +kernel
theorem dX10_next0_26 : decode cX10_next0 26 = .ok (.aload_n 0, 1) := by decide +kernel
theorem dX10_next0_27 : decode cX10_next0 27 = .ok (.dup, 1) := by decide +kernel
theorem dX10_next0_28 : decode cX10_next0 28 = .ok (.getfield 84, 3) := by decide +kernel
theorem dX10_next0_31 : decode cX10_next0 31 = .ok (.iconst 1, 1) := by decide +kernel
theorem dX10_next0_32 : decode cX10_next0 32 = .ok (.iadd, 1) := by decide +kernel
theorem dX10_next0_33 : decode cX10_next0 33 = .ok (.putfield 84, 3) := by decide +kernel
theorem dX10_next0_36 : decode cX10_next0 36 = .ok (.goto (-36), 3) := by decide +kernel
theorem dX10_next0_39 : decode cX10_next0 39 = .ok (.aload_n 0, 1) := by decide +kernel
theorem dX10_next0_40 : decode cX10_next0 40 = .ok (.aload_n 0, 1) := by decide +kernel
theorem dX10_next0_41 : decode cX10_next0 41 = .ok (.getfield 84, 3) := by decide +kernel
theorem dX10_next0_44 : decode cX10_next0 44 = .ok (.putfield 87, 3) := by decide +kernel
theorem dX10_next0_47 : decode cX10_next0 47 = .ok (.aload_n 0, 1) := by decide +kernel
theorem dX10_next0_48 : decode cX10_next0 48 = .ok (.aload_n 0, 1) := by decide +kernel
theorem dX10_next0_49 : decode cX10_next0 49 = .ok (.getfield 84, 3) := by decide +kernel
theorem dX10_next0_52 : decode cX10_next0 52 = .ok (.invokevirtual 164, 3) := by decide +kernel
theorem dX10_next0_55 : decode cX10_next0 55 = .ok (.istore_n 1, 1) := by decide +kernel
theorem dX10_next0_56 : decode cX10_next0 56 = .ok (.iload_n 1, 1) := by decide +kernel
theorem dX10_next0_57 : decode cX10_next0 57 = .ok (.iconst (-1), 1) := by decide +kernel
theorem dX10_next0_58 : decode cX10_next0 58 = .ok (.if_icmp .ne 11, 3) := by decide +kernel
theorem dX10_next0_61 : decode cX10_next0 61 = .ok (.aload_n 0, 1) := by decide +kernel
theorem dX10_next0_62 : decode cX10_next0 62 = .ok (.iconst 0, 1) := by decide +kernel
theorem dX10_next0_63 : decode cX10_next0 63 = .ok (.putfield 168, 3) := by decide +kernel
theorem dX10_next0_66 : decode cX10_next0 66 = .ok (.goto 240, 3) := by decide +kernel
theorem dX10_next0_69 : decode cX10_next0 69 = .ok (.iload_n 1, 1) := by decide +kernel
theorem dX10_next0_70 : decode cX10_next0 70 = .ok (.invokestatic 171, 3) := by decide +kernel
theorem dX10_next0_73 : decode cX10_next0 73 = .ok (.ifCond .eq 41, 3) := by decide +kernel
theorem dX10_next0_76 : decode cX10_next0 76 = .ok (.aload_n 0, 1) := by decide +kernel
theorem dX10_next0_77 : decode cX10_next0 77 = .ok (.aload_n 0, 1) := by decide +kernel
theorem dX10_next0_78 : decode cX10_next0 78 = .ok (.getfield 84, 3) := by decide +kernel
theorem dX10_next0_81 : decode cX10_next0 81 = .ok (.invokevirtual 164, 3) := by decide +kernel
theorem dX10_next0_84 : decode cX10_next0 84 = .ok (.invokestatic 171, 3) := by decide +kernel
theorem dX10_next0_87 : decode cX10_next0 87 = .ok (.ifCond .eq 16, 3) := by decide +kernel
theorem dX10_next0_90 : decode cX10_next0 90 = .ok (.aload_n 0, 1) := by decide +kernel
theorem dX10_next0_91 : decode cX10_next0 91 = .ok (.dup, 1) := by decide +kernel
theorem dX10_next0_92 : decode cX10_next0 92 = .ok (.getfield 84, 3) := by decide +kernel
theorem dX10_next0_95 : decode cX10_next0 95 = .ok (.iconst 1, 1) := by decide +kernel
theorem dX10_next0_96 : decode cX10_next0 96 = .ok (.iadd, 1) := by decide +kernel
theorem dX10_next0_97 : decode cX10_next0 97 = .ok (.putfield 84, 3) := by decide +kernel
theorem dX10_next0_100 : decode cX10_next0 100 = .ok (.goto (-24), 3) := by decide +kernel
theorem dX10_next0_103 : decode cX10_next0 103 = .ok (.aload_n 0, 1) := by decide +kernel
theorem dX10_next0_104 : decode cX10_next0 104 = .ok (.aload_n 0, 1) := by decide +kernel
theorem dX10_next0_105 : decode cX10_next0 105 = .ok (.invokevirtual 174, 3) := by decide +kernel
theorem dX10_next0_108 : decode cX10_next0 108 = .ok (.putfield 168, 3) := by decide +kernel
theorem dX10_next0_111 : decode cX10_next0 111 = .ok (.goto 195, 3) := by decide +kernel
theorem dX10_next0_114 : decode cX10_next0 114 = .ok (.iload_n 1, 1) := by decide +kernel
theorem dX10_next0_115 : decode cX10_next0 115 = .ok (.invokestatic 177, 3) := by decide +kernel
theorem dX10_next0_118 : decode cX10_next0 118 = .ok (.ifCond .eq 96, 3) := by decide +kernel
theorem dX10_next0_121 : decode cX10_next0 121 = .ok (.aload_n 0, 1) := by decide +kernel
theorem dX10_next0_122 : decode cX10_next0 122 = .ok (.iconst 0, 1) := by decide +kernel
theorem dX10_next0_123 : decode cX10_next0 123 = .ok (.putfield 180, 3) := by decide +kernel
theorem dX10_next0_126 : decode cX10_next0 126 = .ok (.aload_n 0, 1) := by decide +kernel
theorem dX10_next0_127 : decode cX10_next0 127 = .ok (.aload_n 0, 1) := by decide +kernel
theorem dX10_next0_128 : decode cX10_next0 128 = .ok (.getfield 84, 3) := by decide +kernel
theorem dX10_next0_131 : decode cX10_next0 131 = .ok (.invokevirtual 164, 3) := by decide +kernel
theorem dX10_next0_134 : decode cX10_next0 134 = .ok (.invokestatic 177, 3) := by decide +kernel
theorem dX10_next0_137 : decode cX10_next0 137 = .ok (.ifCond .eq 52, 3) := by decide +kernel
theorem dX10_next0_140 : decode cX10_next0 140 = .ok (.aload_n 0, 1) := by decide +kernel
theorem dX10_next0_141 : decode cX10_next0 141 = .ok (.getfield 84, 3) := by decide +kernel
theorem dX10_next0_144 : decode cX10_next0 144 = .ok (.aload_n 0, 1) := by decide +kernel
theorem dX10_next0_145 : decode cX10_next0 145 = .ok (.getfield 87, 3) := by decide +kernel
theorem dX10_next0_148 : decode cX10_next0 148 = .ok (.iconst 4, 1) := by decide +kernel
theorem dX10_next0_149 : decode cX10_next0 149 = .ok (.iadd, 1) := by decide +kernel
theorem dX10_next0_150 : decode cX10_next0 150 = .ok (.if_icmp .ge 26, 3) := by decide +kernel
theorem dX10_next0_153 : decode cX10_next0 153 = .ok (.aload_n 0, 1) := by decide +kernel
theorem dX10_next0_154 : decode cX10_next0 154 = .ok (.bipush 10, 2) := by decide +kernel
theorem dX10_next0_156 : decode cX10_next0 156 = .ok (.aload_n 0, 1) := by decide +kernel
theorem dX10_next0_157 : decode cX10_next0 157 = .ok (.getfield 180, 3) := by decide +kernel
theorem dX10_next0_160 : decode cX10_next0 160 = .ok (.imul, 1) := by decide +kernel
theorem dX10_next0_161 : decode cX10_next0 161 = .ok (.aload_n 0, 1) := by decide +kernel
theorem dX10_next0_162 : decode cX10_next0 162 = .ok (.aload_n 0, 1) := by decide +kernel
theorem dX10_next0_163 : decode cX10_next0 163 = .ok (.getfield 84, 3) := by decide +kernel
theorem dX10_next0_166 : decode cX10_next0 166 = .ok (.invokevirtual 164, 3) := by decide +kernel
theorem dX10_next0_169 : decode cX10_next0 169 = .ok (.iadd, 1) := by decide +kernel
theorem dX10_next0_170 : decode cX10_next0 170 = .ok (.bipush 48, 2) := by decide +kernel
theorem dX10_next0_172 : decode cX10_next0 172 = .ok (.isub, 1) := by decide +kernel
theorem dX10_next0_173 : decode cX10_next0 173 = .ok (.putfield 180, 3) := by decide +kernel
theorem dX10_next0_176 : decode cX10_next0 176 = .ok (.aload_n 0, 1) := by decide +kernel
theorem dX10_next0_177 : decode cX10_next0 177 = .ok (.dup, 1) := by decide +kernel
theorem dX10_next0_178 : decode cX10_next0 178 = .ok (.getfield 84, 3) := by decide +kernel
theorem dX10_next0_181 : decode cX10_next0 181 = .ok (.iconst 1, 1) := by decide +kernel
theorem dX10_next0_182 : decode cX10_next0 182 = .ok (.iadd, 1) := by decide +kernel
theorem dX10_next0_183 : decode cX10_next0 183 = .ok (.putfield 84, 3) := by decide +kernel
theorem dX10_next0_186 : decode cX10_next0 186 = .ok (.goto (-60), 3) := by decide +kernel
theorem dX10_next0_189 : decode cX10_next0 189 = .ok (.aload_n 0, 1) := by decide +kernel
theorem dX10_next0_190 : decode cX10_next0 190 = .ok (.aload_n 0, 1) := by decide +kernel
theorem dX10_next0_191 : decode cX10_next0 191 = .ok (.getfield 84, 3) := by decide +kernel
theorem dX10_next0_194 : decode cX10_next0 194 = .ok (.aload_n 0, 1) := by decide +kernel
theorem dX10_next0_195 : decode cX10_next0 195 = .ok (.getfield 87, 3) := by decide +kernel
theorem dX10_next0_198 : decode cX10_next0 198 = .ok (.isub, 1) := by decide +kernel
theorem dX10_next0_199 : decode cX10_next0 199 = .ok (.iconst 5, 1) := by decide +kernel
theorem dX10_next0_200 : decode cX10_next0 200 = .ok (.if_icmp .ge 7, 3) := by decide +kernel
theorem dX10_next0_203 : decode cX10_next0 203 = .ok (.iconst 2, 1) := by decide +kernel
theorem dX10_next0_204 : decode cX10_next0 204 = .ok (.goto 4, 3) := by decide +kernel
theorem dX10_next0_207 : decode cX10_next0 207 = .ok (.iconst 1, 1) := by decide +kernel
theorem dX10_next0_208 : decode cX10_next0 208 = .ok (.putfield 168, 3) := by decide +kernel
theorem dX10_next0_211 : decode cX10_next0 211 = .ok (.goto 95, 3) := by decide +kernel
theorem dX10_next0_214 : decode cX10_next0 214 = .ok (.aload_n 0, 1) := by decide +kernel
theorem dX10_next0_215 : decode cX10_next0 215 = .ok (.dup, 1) := by decide +kernel
theorem dX10_next0_216 : decode cX10_next0 216 = .ok (.getfield 84, 3) := by decide +kernel
theorem dX10_next0_219 : decode cX10_next0 219 = .ok (.iconst 1, 1) := by decide +kernel
theorem dX10_next0_220 : decode cX10_next0 220 = .ok (.iadd, 1) := by decide +kernel
theorem dX10_next0_221 : decode cX10_next0 221 = .ok (.putfield 84, 3) := by decide +kernel
theorem dX10_next0_224 : decode cX10_next0 224 = .ok (.iload_n 1, 1) := by decide +kernel
theorem dX10_next0_225 : decode cX10_next0 225 = .ok (.bipush 59, 2) := by decide +kernel
theorem dX10_next0_227 : decode cX10_next0 227 = .ok (.if_icmp .eq 57, 3) := by decide +kernel
theorem dX10_next0_230 : decode cX10_next0 230 = .ok (.iload_n 1, 1) := by decide +kernel
theorem dX10_next0_231 : decode cX10_next0 231 = .ok (.bipush 43, 2) := by decide +kernel
theorem dX10_next0_233 : decode cX10_next0 233 = .ok (.if_icmp .eq 51, 3) := by decide +kernel
theorem dX10_next0_236 : decode cX10_next0 236 = .ok (.iload_n 1, 1) := by decide +kernel
theorem dX10_next0_237 : decode cX10_next0 237 = .ok (.bipush 45, 2) := by decide +kernel
theorem dX10_next0_239 : decode cX10_next0 239 = .ok (.if_icmp .eq 45, 3) := by decide +kernel
theorem dX10_next0_242 : decode cX10_next0 242 = .ok (.iload_n 1, 1) := by decide +kernel
theorem dX10_next0_243 : decode cX10_next0 243 = .ok (.bipush 42, 2) := by decide +kernel
theorem dX10_next0_245 : decode cX10_next0 245 = .ok (.if_icmp .eq 39, 3) := by decide +kernel
theorem dX10_next0_248 : decode cX10_next0 248 = .ok (.iload_n 1, 1) := by decide +kernel
theorem dX10_next0_249 : decode cX10_next0 249 = .ok (.bipush 47, 2) := by decide +kernel
theorem dX10_next0_251 : decode cX10_next0 251 = .ok (.if_icmp .eq 33, 3) := by decide +kernel
theorem dX10_next0_254 : decode cX10_next0 254 = .ok (.iload_n 1, 1) := by decide +kernel
theorem dX10_next0_255 : decode cX10_next0 255 = .ok (.bipush 40, 2) := by decide +kernel
theorem dX10_next0_257 : decode cX10_next0 257 = .ok (.if_icmp .eq 27, 3) := by decide +kernel
theorem dX10_next0_260 : decode cX10_next0 260 = .ok (.iload_n 1, 1) := by decide +kernel
theorem dX10_next0_261 : decode cX10_next0 261 = .ok (.bipush 41, 2) := by decide +kernel
theorem dX10_next0_263 : decode cX10_next0 263 = .ok (.if_icmp .eq 21, 3) := by decide +kernel
theorem dX10_next0_266 : decode cX10_next0 266 = .ok (.iload_n 1, 1) := by decide +kernel
theorem dX10_next0_267 : decode cX10_next0 267 = .ok (.bipush 60, 2) := by decide +kernel
theorem dX10_next0_269 : decode cX10_next0 269 = .ok (.if_icmp .eq 15, 3) := by decide +kernel
theorem dX10_next0_272 : decode cX10_next0 272 = .ok (.iload_n 1, 1) := by decide +kernel
theorem dX10_next0_273 : decode cX10_next0 273 = .ok (.bipush 61, 2) := by decide +kernel
theorem dX10_next0_275 : decode cX10_next0 275 = .ok (.if_icmp .eq 9, 3) := by decide +kernel
theorem dX10_next0_278 : decode cX10_next0 278 = .ok (.iload_n 1, 1) := by decide +kernel
theorem dX10_next0_279 : decode cX10_next0 279 = .ok (.bipush 62, 2) := by decide +kernel
theorem dX10_next0_281 : decode cX10_next0 281 = .ok (.if_icmp .ne 7, 3) := by decide +kernel
theorem dX10_next0_284 : decode cX10_next0 284 = .ok (.iconst 1, 1) := by decide +kernel
theorem dX10_next0_285 : decode cX10_next0 285 = .ok (.goto 4, 3) := by decide +kernel
theorem dX10_next0_288 : decode cX10_next0 288 = .ok (.iconst 0, 1) := by decide +kernel
theorem dX10_next0_289 : decode cX10_next0 289 = .ok (.istore_n 2, 1) := by decide +kernel
theorem dX10_next0_290 : decode cX10_next0 290 = .ok (.aload_n 0, 1) := by decide +kernel
theorem dX10_next0_291 : decode cX10_next0 291 = .ok (.iload_n 2, 1) := by decide +kernel
theorem dX10_next0_292 : decode cX10_next0 292 = .ok (.ifCond .eq 10, 3) := by decide +kernel
theorem dX10_next0_295 : decode cX10_next0 295 = .ok (.bipush 100, 2) := by decide +kernel
theorem dX10_next0_297 : decode cX10_next0 297 = .ok (.iload_n 1, 1) := by decide +kernel
theorem dX10_next0_298 : decode cX10_next0 298 = .ok (.iadd, 1) := by decide +kernel
theorem dX10_next0_299 : decode cX10_next0 299 = .ok (.goto 4, 3) := by decide +kernel
theorem dX10_next0_302 : decode cX10_next0 302 = .ok (.iconst 1, 1) := by decide +kernel
theorem dX10_next0_303 : decode cX10_next0 303 = .ok (.putfield 168, 3) := by decide +kernel
theorem dX10_next0_306 : decode cX10_next0 306 = .ok (.return_, 1) := by decide +kernel
theorem dX10_bad_0 : decode cX10_bad 0 = .ok (.aload_n 0, 1) := by decide +kernel
theorem dX10_bad_1 : decode cX10_bad 1 = .ok (.iload_n 1, 1) := by decide +kernel
theorem dX10_bad_2 : decode cX10_bad 2 = .ok (.putfield 183, 3) := by decide +kernel
theorem dX10_bad_5 : decode cX10_bad 5 = .ok (.aload_n 0, 1) := by decide +kernel
theorem dX10_bad_6 : decode cX10_bad 6 = .ok (.aload_n 0, 1) := by decide +kernel
theorem dX10_bad_7 : decode cX10_bad 7 = .ok (.getfield 87, 3) := by decide +kernel
theorem dX10_bad_10 : decode cX10_bad 10 = .ok (.putfield 186, 3) := by decide +kernel
theorem dX10_bad_13 : decode cX10_bad 13 = .ok (.iconst 0, 1) := by decide +kernel
theorem dX10_bad_14 : decode cX10_bad 14 = .ok (.ireturn, 1) := by decide +kernel
theorem dX10_need_0 : decode cX10_need 0 = .ok (.aload_n 0, 1) := by decide +kernel
theorem dX10_need_1 : decode cX10_need 1 = .ok (.getfield 168, 3) := by decide +kernel
theorem dX10_need_4 : decode cX10_need 4 = .ok (.iload_n 1, 1) := by decide +kernel
theorem dX10_need_5 : decode cX10_need 5 = .ok (.if_icmp .eq 9, 3) := by decide +kernel
theorem dX10_need_8 : decode cX10_need 8 = .ok (.aload_n 0, 1) := by decide +kernel
theorem dX10_need_9 : decode cX10_need 9 = .ok (.iconst 1, 1) := by decide +kernel
theorem dX10_need_10 : decode cX10_need 10 = .ok (.invokevirtual 189, 3) := by decide +kernel
theorem dX10_need_13 : decode cX10_need 13 = .ok (.ireturn, 1) := by decide +kernel
theorem dX10_need_14 : decode cX10_need 14 = .ok (.aload_n 0, 1) := by decide +kernel
theorem dX10_need_15 : decode cX10_need 15 = .ok (.invokevirtual 192, 3) := by decide +kernel
theorem dX10_need_18 : decode cX10_need 18 = .ok (.iconst 1, 1) := by decide +kernel
theorem dX10_need_19 : decode cX10_need 19 = .ok (.ireturn, 1) := by decide +kernel
theorem dX10_lay_0 : decode cX10_lay 0 = .ok (.aload_n 0, 1) := by decide +kernel
theorem dX10_lay_1 : decode cX10_lay 1 = .ok (.getfield 25, 3) := by decide +kernel
theorem dX10_lay_4 : decode cX10_lay 4 = .ok (.iconst 2, 1) := by decide +kernel
theorem dX10_lay_5 : decode cX10_lay 5 = .ok (.aload_n 0, 1) := by decide +kernel
theorem dX10_lay_6 : decode cX10_lay 6 = .ok (.getfield 195, 3) := by decide +kernel
theorem dX10_lay_9 : decode cX10_lay 9 = .ok (.imul, 1) := by decide +kernel
theorem dX10_lay_10 : decode cX10_lay 10 = .ok (.iload_n 1, 1) := by decide +kernel
theorem dX10_lay_11 : decode cX10_lay 11 = .ok (.iastore, 1) := by decide +kernel
theorem dX10_lay_12 : decode cX10_lay 12 = .ok (.aload_n 0, 1) := by decide +kernel
theorem dX10_lay_13 : decode cX10_lay 13 = .ok (.getfield 25, 3) := by decide +kernel
theorem dX10_lay_16 : decode cX10_lay 16 = .ok (.iconst 2, 1) := by decide +kernel
theorem dX10_lay_17 : decode cX10_lay 17 = .ok (.aload_n 0, 1) := by decide +kernel
theorem dX10_lay_18 : decode cX10_lay 18 = .ok (.getfield 195, 3) := by decide +kernel
theorem dX10_lay_21 : decode cX10_lay 21 = .ok (.imul, 1) := by decide +kernel
theorem dX10_lay_22 : decode cX10_lay 22 = .ok (.iconst 1, 1) := by decide +kernel
theorem dX10_lay_23 : decode cX10_lay 23 = .ok (.iadd, 1) := by decide +kernel
theorem dX10_lay_24 : decode cX10_lay 24 = .ok (.iload_n 2, 1) := by decide +kernel
theorem dX10_lay_25 : decode cX10_lay 25 = .ok (.iastore, 1) := by decide +kernel
theorem dX10_lay_26 : decode cX10_lay 26 = .ok (.aload_n 0, 1) := by decide +kernel
theorem dX10_lay_27 : decode cX10_lay 27 = .ok (.dup, 1) := by decide +kernel
theorem dX10_lay_28 : decode cX10_lay 28 = .ok (.getfield 195, 3) := by decide +kernel
theorem dX10_lay_31 : decode cX10_lay 31 = .ok (.iconst 1, 1) := by decide +kernel
theorem dX10_lay_32 : decode cX10_lay 32 = .ok (.iadd, 1) := by decide +kernel
theorem dX10_lay_33 : decode cX10_lay 33 = .ok (.putfield 195, 3) := by decide +kernel
theorem dX10_lay_36 : decode cX10_lay 36 = .ok (.return_, 1) := by decide +kernel
theorem dX10_opens_0 : decode cX10_opens 0 = .ok (.aload_n 0, 1) := by decide +kernel
theorem dX10_opens_1 : decode cX10_opens 1 = .ok (.getfield 198, 3) := by decide +kernel
theorem dX10_opens_4 : decode cX10_opens 4 = .ok (.bipush 8, 2) := by decide +kernel
theorem dX10_opens_6 : decode cX10_opens 6 = .ok (.if_icmp .ne 9, 3) := by decide +kernel
theorem dX10_opens_9 : decode cX10_opens 9 = .ok (.aload_n 0, 1) := by decide +kernel
theorem dX10_opens_10 : decode cX10_opens 10 = .ok (.iconst 3, 1) := by decide +kernel
theorem dX10_opens_11 : decode cX10_opens 11 = .ok (.invokevirtual 189, 3) := by decide +kernel
theorem dX10_opens_14 : decode cX10_opens 14 = .ok (.ireturn, 1) := by decide +kernel
theorem dX10_opens_15 : decode cX10_opens 15 = .ok (.aload_n 0, 1) := by decide +kernel
theorem dX10_opens_16 : decode cX10_opens 16 = .ok (.dup, 1) := by decide +kernel
theorem dX10_opens_17 : decode cX10_opens 17 = .ok (.getfield 198, 3) := by decide +kernel
theorem dX10_opens_20 : decode cX10_opens 20 = .ok (.iconst 1, 1) := by decide +kernel
theorem dX10_opens_21 : decode cX10_opens 21 = .ok (.iadd, 1) := by decide +kernel
theorem dX10_opens_22 : decode cX10_opens 22 = .ok (.putfield 198, 3) := by decide +kernel
theorem dX10_opens_25 : decode cX10_opens 25 = .ok (.aload_n 0, 1) := by decide +kernel
theorem dX10_opens_26 : decode cX10_opens 26 = .ok (.invokevirtual 192, 3) := by decide +kernel
theorem dX10_opens_29 : decode cX10_opens 29 = .ok (.iconst 1, 1) := by decide +kernel
theorem dX10_opens_30 : decode cX10_opens 30 = .ok (.ireturn, 1) := by decide +kernel
theorem dX10_sumUp_0 : decode cX10_sumUp 0 = .ok (.aload_n 0, 1) := by decide +kernel
theorem dX10_sumUp_1 : decode cX10_sumUp 1 = .ok (.invokevirtual 201, 3) := by decide +kernel
theorem dX10_sumUp_4 : decode cX10_sumUp 4 = .ok (.ifCond .ne 5, 3) := by decide +kernel
theorem dX10_sumUp_7 : decode cX10_sumUp 7 = .ok (.iconst 0, 1) := by decide +kernel
theorem dX10_sumUp_8 : decode cX10_sumUp 8 = .ok (.ireturn, 1) := by decide +kernel
theorem dX10_sumUp_9 : decode cX10_sumUp 9 = .ok (.aload_n 0, 1) := by decide +kernel
theorem dX10_sumUp_10 : decode cX10_sumUp 10 = .ok (.getfield 168, 3) := by decide +kernel
theorem dX10_sumUp_13 : decode cX10_sumUp 13 = .ok (.sipush 143, 3) := by decide +kernel
theorem dX10_sumUp_16 : decode cX10_sumUp 16 = .ok (.if_icmp .eq 13, 3) := by decide +kernel
theorem dX10_sumUp_19 : decode cX10_sumUp 19 = .ok (.aload_n 0, 1) := by decide +kernel
theorem dX10_sumUp_20 : decode cX10_sumUp 20 = .ok (.getfield 168, 3) := by decide +kernel
theorem dX10_sumUp_23 : decode cX10_sumUp 23 = .ok (.sipush 145, 3) := by decide +kernel
theorem dX10_sumUp_26 : decode cX10_sumUp 26 = .ok (.if_icmp .ne 43, 3) := by decide +kernel
theorem dX10_sumUp_29 : decode cX10_sumUp 29 = .ok (.aload_n 0, 1) := by decide +kernel
theorem dX10_sumUp_30 : decode cX10_sumUp 30 = .ok (.getfield 168, 3) := by decide +kernel
theorem dX10_sumUp_33 : decode cX10_sumUp 33 = .ok (.sipush 143, 3) := by decide +kernel
theorem dX10_sumUp_36 : decode cX10_sumUp 36 = .ok (.if_icmp .ne 8, 3) := by decide +kernel
theorem dX10_sumUp_39 : decode cX10_sumUp 39 = .ok (.bipush 23, 2) := by decide +kernel
theorem dX10_sumUp_41 : decode cX10_sumUp 41 = .ok (.goto 5, 3) := by decide +kernel
theorem dX10_sumUp_44 : decode cX10_sumUp 44 = .ok (.bipush 24, 2) := by decide +kernel
theorem dX10_sumUp_46 : decode cX10_sumUp 46 = .ok (.istore_n 1, 1) := by decide +kernel
theorem dX10_sumUp_47 : decode cX10_sumUp 47 = .ok (.aload_n 0, 1) := by decide +kernel
theorem dX10_sumUp_48 : decode cX10_sumUp 48 = .ok (.invokevirtual 192, 3) := by decide +kernel
theorem dX10_sumUp_51 : decode cX10_sumUp 51 = .ok (.aload_n 0, 1) := by decide +kernel
theorem dX10_sumUp_52 : decode cX10_sumUp 52 = .ok (.invokevirtual 201, 3) := by decide +kernel
theorem dX10_sumUp_55 : decode cX10_sumUp 55 = .ok (.ifCond .ne 5, 3) := by decide +kernel
theorem dX10_sumUp_58 : decode cX10_sumUp 58 = .ok (.iconst 0, 1) := by decide +kernel
theorem dX10_sumUp_59 : decode cX10_sumUp 59 = .ok (.ireturn, 1) := by decide +kernel
theorem dX10_sumUp_60 : decode cX10_sumUp 60 = .ok (.aload_n 0, 1) := by decide +kernel
theorem dX10_sumUp_61 : decode cX10_sumUp 61 = .ok (.iload_n 1, 1) := by decide +kernel
theorem dX10_sumUp_62 : decode cX10_sumUp 62 = .ok (.iconst 0, 1) := by decide +kernel
theorem dX10_sumUp_63 : decode cX10_sumUp 63 = .ok (.invokevirtual 205, 3) := by decide +kernel
theorem dX10_sumUp_66 : decode cX10_sumUp 66 = .ok (.goto (-57), 3) := by decide +kernel
theorem dX10_sumUp_69 : decode cX10_sumUp 69 = .ok (.iconst 1, 1) := by decide +kernel
theorem dX10_sumUp_70 : decode cX10_sumUp 70 = .ok (.ireturn, 1) := by decide +kernel
theorem dX10_product_0 : decode cX10_product 0 = .ok (.aload_n 0, 1) := by decide +kernel
theorem dX10_product_1 : decode cX10_product 1 = .ok (.invokevirtual 209, 3) := by decide +kernel
theorem dX10_product_4 : decode cX10_product 4 = .ok (.ifCond .ne 5, 3) := by decide +kernel
theorem dX10_product_7 : decode cX10_product 7 = .ok (.iconst 0, 1) := by decide +kernel
theorem dX10_product_8 : decode cX10_product 8 = .ok (.ireturn, 1) := by decide +kernel
theorem dX10_product_9 : decode cX10_product 9 = .ok (.aload_n 0, 1) := by decide +kernel
theorem dX10_product_10 : decode cX10_product 10 = .ok (.getfield 168, 3) := by decide +kernel
theorem dX10_product_13 : decode cX10_product 13 = .ok (.sipush 142, 3) := by decide +kernel
theorem dX10_product_16 : decode cX10_product 16 = .ok (.if_icmp .eq 13, 3) := by decide +kernel
theorem dX10_product_19 : decode cX10_product 19 = .ok (.aload_n 0, 1) := by decide +kernel
theorem dX10_product_20 : decode cX10_product 20 = .ok (.getfield 168, 3) := by decide +kernel
theorem dX10_product_23 : decode cX10_product 23 = .ok (.sipush 147, 3) := by decide +kernel
theorem dX10_product_26 : decode cX10_product 26 = .ok (.if_icmp .ne 89, 3) := by decide +kernel
theorem dX10_product_29 : decode cX10_product 29 = .ok (.aload_n 0, 1) := by decide +kernel
theorem dX10_product_30 : decode cX10_product 30 = .ok (.getfield 168, 3) := by decide +kernel
theorem dX10_product_33 : decode cX10_product 33 = .ok (.sipush 147, 3) := by decide +kernel
theorem dX10_product_36 : decode cX10_product 36 = .ok (.if_icmp .ne 7, 3) := by decide +kernel
theorem dX10_product_39 : decode cX10_product 39 = .ok (.iconst 1, 1) := by decide +kernel
theorem dX10_product_40 : decode cX10_product 40 = .ok (.goto 4, 3) := by decide +kernel
theorem dX10_product_43 : decode cX10_product 43 = .ok (.iconst 0, 1) := by decide +kernel
theorem dX10_product_44 : decode cX10_product 44 = .ok (.istore_n 1, 1) := by decide +kernel
theorem dX10_product_45 : decode cX10_product 45 = .ok (.aload_n 0, 1) := by decide +kernel
theorem dX10_product_46 : decode cX10_product 46 = .ok (.invokevirtual 192, 3) := by decide +kernel
theorem dX10_product_49 : decode cX10_product 49 = .ok (.iload_n 1, 1) := by decide +kernel
theorem dX10_product_50 : decode cX10_product 50 = .ok (.ifCond .eq 46, 3) := by decide +kernel
theorem dX10_product_53 : decode cX10_product 53 = .ok (.aload_n 0, 1) := by decide +kernel
theorem dX10_product_54 : decode cX10_product 54 = .ok (.getfield 180, 3) := by decide +kernel
theorem dX10_product_57 : decode cX10_product 57 = .ok (.istore_n 2, 1) := by decide +kernel
theorem dX10_product_58 : decode cX10_product 58 = .ok (.aload_n 0, 1) := by decide +kernel
theorem dX10_product_59 : decode cX10_product 59 = .ok (.getfield 168, 3) := by decide +kernel
theorem dX10_product_62 : decode cX10_product 62 = .ok (.iconst 2, 1) := by decide +kernel
theorem dX10_product_63 : decode cX10_product 63 = .ok (.if_icmp .eq 9, 3) := by decide +kernel
theorem dX10_product_66 : decode cX10_product 66 = .ok (.aload_n 0, 1) := by decide +kernel
theorem dX10_product_67 : decode cX10_product 67 = .ok (.iconst 1, 1) := by decide +kernel
theorem dX10_product_68 : decode cX10_product 68 = .ok (.invokevirtual 189, 3) := by decide +kernel
theorem dX10_product_71 : decode cX10_product 71 = .ok (.ireturn, 1) := by decide +kernel
theorem dX10_product_72 : decode cX10_product 72 = .ok (.iload_n 2, 1) := by decide +kernel
theorem dX10_product_73 : decode cX10_product 73 = .ok (.ifCond .ne 9, 3) := by decide +kernel
theorem dX10_product_76 : decode cX10_product 76 = .ok (.aload_n 0, 1) := by decide +kernel
theorem dX10_product_77 : decode cX10_product 77 = .ok (.iconst 2, 1) := by decide +kernel
theorem dX10_product_78 : decode cX10_product 78 = .ok (.invokevirtual 189, 3) := by decide +kernel
theorem dX10_product_81 : decode cX10_product 81 = .ok (.ireturn, 1) := by decide +kernel
theorem dX10_product_82 : decode cX10_product 82 = .ok (.aload_n 0, 1) := by decide +kernel
theorem dX10_product_83 : decode cX10_product 83 = .ok (.invokevirtual 192, 3) := by decide +kernel
theorem dX10_product_86 : decode cX10_product 86 = .ok (.aload_n 0, 1) := by decide +kernel
theorem dX10_product_87 : decode cX10_product 87 = .ok (.bipush 26, 2) := by decide +kernel
theorem dX10_product_89 : decode cX10_product 89 = .ok (.iload_n 2, 1) := by decide +kernel
theorem dX10_product_90 : decode cX10_product 90 = .ok (.invokevirtual 205, 3) := by decide +kernel
theorem dX10_product_93 : decode cX10_product 93 = .ok (.goto 19, 3) := by decide +kernel
theorem dX10_product_96 : decode cX10_product 96 = .ok (.aload_n 0, 1) := by decide +kernel
theorem dX10_product_97 : decode cX10_product 97 = .ok (.invokevirtual 209, 3) := by decide +kernel
theorem dX10_product_100 : decode cX10_product 100 = .ok (.ifCond .ne 5, 3) := by decide +kernel
theorem dX10_product_103 : decode cX10_product 103 = .ok (.iconst 0, 1) := by decide +kernel
theorem dX10_product_104 : decode cX10_product 104 = .ok (.ireturn, 1) := by decide +kernel
theorem dX10_product_105 : decode cX10_product 105 = .ok (.aload_n 0, 1) := by decide +kernel
theorem dX10_product_106 : decode cX10_product 106 = .ok (.bipush 25, 2) := by decide +kernel
theorem dX10_product_108 : decode cX10_product 108 = .ok (.iconst 0, 1) := by decide +kernel
theorem dX10_product_109 : decode cX10_product 109 = .ok (.invokevirtual 205, 3) := by decide +kernel
theorem dX10_product_112 : decode cX10_product 112 = .ok (.goto (-103), 3) := by decide +kernel
theorem dX10_product_115 : decode cX10_product 115 = .ok (.iconst 1, 1) := by decide +kernel
theorem dX10_product_116 : decode cX10_product 116 = .ok (.ireturn, 1) := by decide +kernel
theorem dX10_unit_0 : decode cX10_unit 0 = .ok (.aload_n 0, 1) := by decide +kernel
theorem dX10_unit_1 : decode cX10_unit 1 = .ok (.getfield 168, 3) := by decide +kernel
theorem dX10_unit_4 : decode cX10_unit 4 = .ok (.bipush 41, 2) := by decide +kernel
theorem dX10_unit_6 : decode cX10_unit 6 = .ok (.bipush 48, 2) := by decide +kernel
theorem dX10_unit_8 : decode cX10_unit 8 = .ok (.invokestatic 59, 3) := by decide +kernel
theorem dX10_unit_11 : decode cX10_unit 11 = .ok (.istore_n 1, 1) := by decide +kernel
theorem dX10_unit_12 : decode cX10_unit 12 = .ok (.aload_n 0, 1) := by decide +kernel
theorem dX10_unit_13 : decode cX10_unit 13 = .ok (.getfield 168, 3) := by decide +kernel
theorem dX10_unit_16 : decode cX10_unit 16 = .ok (.iconst 2, 1) := by decide +kernel
theorem dX10_unit_17 : decode cX10_unit 17 = .ok (.if_icmp .eq 13, 3) := by decide +kernel
theorem dX10_unit_20 : decode cX10_unit 20 = .ok (.iload_n 1, 1) := by decide +kernel
theorem dX10_unit_21 : decode cX10_unit 21 = .ok (.ifCond .ne 9, 3) := by decide +kernel
theorem dX10_unit_24 : decode cX10_unit 24 = .ok (.aload_n 0, 1) := by decide +kernel
theorem dX10_unit_25 : decode cX10_unit 25 = .ok (.iconst 1, 1) := by decide +kernel
theorem dX10_unit_26 : decode cX10_unit 26 = .ok (.invokevirtual 189, 3) := by decide +kernel
theorem dX10_unit_29 : decode cX10_unit 29 = .ok (.ireturn, 1) := by decide +kernel
theorem dX10_unit_30 : decode cX10_unit 30 = .ok (.aload_n 0, 1) := by decide +kernel
theorem dX10_unit_31 : decode cX10_unit 31 = .ok (.iload_n 1, 1) := by decide +kernel
theorem dX10_unit_32 : decode cX10_unit 32 = .ok (.ifCond .eq 13, 3) := by decide +kernel
theorem dX10_unit_35 : decode cX10_unit 35 = .ok (.aload_n 0, 1) := by decide +kernel
theorem dX10_unit_36 : decode cX10_unit 36 = .ok (.getfield 168, 3) := by decide +kernel
theorem dX10_unit_39 : decode cX10_unit 39 = .ok (.bipush 40, 2) := by decide +kernel
theorem dX10_unit_41 : decode cX10_unit 41 = .ok (.isub, 1) := by decide +kernel
theorem dX10_unit_42 : decode cX10_unit 42 = .ok (.goto 4, 3) := by decide +kernel
theorem dX10_unit_45 : decode cX10_unit 45 = .ok (.iconst 0, 1) := by decide +kernel
theorem dX10_unit_46 : decode cX10_unit 46 = .ok (.aload_n 0, 1) := by decide +kernel
theorem dX10_unit_47 : decode cX10_unit 47 = .ok (.getfield 180, 3) := by decide +kernel
theorem dX10_unit_50 : decode cX10_unit 50 = .ok (.invokevirtual 205, 3) := by decide +kernel
theorem dX10_unit_53 : decode cX10_unit 53 = .ok (.aload_n 0, 1) := by decide +kernel
theorem dX10_unit_54 : decode cX10_unit 54 = .ok (.invokevirtual 192, 3) := by decide +kernel
theorem dX10_unit_57 : decode cX10_unit 57 = .ok (.iconst 1, 1) := by decide +kernel
theorem dX10_unit_58 : decode cX10_unit 58 = .ok (.ireturn, 1) := by decide +kernel
theorem dX10_any_0 : decode cX10_any 0 = .ok (.aload_n 0, 1) := by decide +kernel
theorem dX10_any_1 : decode cX10_any 1 = .ok (.invokevirtual 212, 3) := by decide +kernel
theorem dX10_any_4 : decode cX10_any 4 = .ok (.ifCond .ne 5, 3) := by decide +kernel
theorem dX10_any_7 : decode cX10_any 7 = .ok (.iconst 0, 1) := by decide +kernel
theorem dX10_any_8 : decode cX10_any 8 = .ok (.ireturn, 1) := by decide +kernel
theorem dX10_any_9 : decode cX10_any 9 = .ok (.aload_n 0, 1) := by decide +kernel
theorem dX10_any_10 : decode cX10_any 10 = .ok (.getfield 168, 3) := by decide +kernel
theorem dX10_any_13 : decode cX10_any 13 = .ok (.iconst 4, 1) := by decide +kernel
theorem dX10_any_14 : decode cX10_any 14 = .ok (.if_icmp .ne 26, 3) := by decide +kernel
theorem dX10_any_17 : decode cX10_any 17 = .ok (.aload_n 0, 1) := by decide +kernel
theorem dX10_any_18 : decode cX10_any 18 = .ok (.invokevirtual 192, 3) := by decide +kernel
theorem dX10_any_21 : decode cX10_any 21 = .ok (.aload_n 0, 1) := by decide +kernel
theorem dX10_any_22 : decode cX10_any 22 = .ok (.invokevirtual 212, 3) := by decide +kernel
theorem dX10_any_25 : decode cX10_any 25 = .ok (.ifCond .ne 5, 3) := by decide +kernel
theorem dX10_any_28 : decode cX10_any 28 = .ok (.iconst 0, 1) := by decide +kernel
theorem dX10_any_29 : decode cX10_any 29 = .ok (.ireturn, 1) := by decide +kernel
theorem dX10_any_30 : decode cX10_any 30 = .ok (.aload_n 0, 1) := by decide +kernel
theorem dX10_any_31 : decode cX10_any 31 = .ok (.bipush 32, 2) := by decide +kernel
theorem dX10_any_33 : decode cX10_any 33 = .ok (.iconst 0, 1) := by decide +kernel
theorem dX10_any_34 : decode cX10_any 34 = .ok (.invokevirtual 205, 3) := by decide +kernel
theorem dX10_any_37 : decode cX10_any 37 = .ok (.goto (-28), 3) := by decide +kernel
theorem dX10_any_40 : decode cX10_any 40 = .ok (.iconst 1, 1) := by decide +kernel
theorem dX10_any_41 : decode cX10_any 41 = .ok (.ireturn, 1) := by decide +kernel
theorem dX10_every_0 : decode cX10_every 0 = .ok (.aload_n 0, 1) := by decide +kernel
theorem dX10_every_1 : decode cX10_every 1 = .ok (.invokevirtual 215, 3) := by decide +kernel
theorem dX10_every_4 : decode cX10_every 4 = .ok (.ifCond .ne 5, 3) := by decide +kernel
theorem dX10_every_7 : decode cX10_every 7 = .ok (.iconst 0, 1) := by decide +kernel
theorem dX10_every_8 : decode cX10_every 8 = .ok (.ireturn, 1) := by decide +kernel
theorem dX10_every_9 : decode cX10_every 9 = .ok (.aload_n 0, 1) := by decide +kernel
theorem dX10_every_10 : decode cX10_every 10 = .ok (.getfield 168, 3) := by decide +kernel
theorem dX10_every_13 : decode cX10_every 13 = .ok (.iconst 5, 1) := by decide +kernel
theorem dX10_every_14 : decode cX10_every 14 = .ok (.if_icmp .ne 26, 3) := by decide +kernel
theorem dX10_every_17 : decode cX10_every 17 = .ok (.aload_n 0, 1) := by decide +kernel
theorem dX10_every_18 : decode cX10_every 18 = .ok (.invokevirtual 192, 3) := by decide +kernel
theorem dX10_every_21 : decode cX10_every 21 = .ok (.aload_n 0, 1) := by decide +kernel
theorem dX10_every_22 : decode cX10_every 22 = .ok (.invokevirtual 215, 3) := by decide +kernel
theorem dX10_every_25 : decode cX10_every 25 = .ok (.ifCond .ne 5, 3) := by decide +kernel
theorem dX10_every_28 : decode cX10_every 28 = .ok (.iconst 0, 1) := by decide +kernel
theorem dX10_every_29 : decode cX10_every 29 = .ok (.ireturn, 1) := by decide +kernel
theorem dX10_every_30 : decode cX10_every 30 = .ok (.aload_n 0, 1) := by decide +kernel
theorem dX10_every_31 : decode cX10_every 31 = .ok (.bipush 31, 2) := by decide +kernel
theorem dX10_every_33 : decode cX10_every 33 = .ok (.iconst 0, 1) := by decide +kernel
theorem dX10_every_34 : decode cX10_every 34 = .ok (.invokevirtual 205, 3) := by decide +kernel
theorem dX10_every_37 : decode cX10_every 37 = .ok (.goto (-28), 3) := by decide +kernel
theorem dX10_every_40 : decode cX10_every 40 = .ok (.iconst 1, 1) := by decide +kernel
theorem dX10_every_41 : decode cX10_every 41 = .ok (.ireturn, 1) := by decide +kernel
theorem dX10_oneTest_0 : decode cX10_oneTest 0 = .ok (.aload_n 0, 1) := by decide +kernel
theorem dX10_oneTest_1 : decode cX10_oneTest 1 = .ok (.getfield 168, 3) := by decide +kernel
theorem dX10_oneTest_4 : decode cX10_oneTest 4 = .ok (.bipush 6, 2) := by decide +kernel
theorem dX10_oneTest_6 : decode cX10_oneTest 6 = .ok (.if_icmp .ne 38, 3) := by decide +kernel
theorem dX10_oneTest_9 : decode cX10_oneTest 9 = .ok (.aload_n 0, 1) := by decide +kernel
theorem dX10_oneTest_10 : decode cX10_oneTest 10 = .ok (.invokevirtual 218, 3) := by decide +kernel
theorem dX10_oneTest_13 : decode cX10_oneTest 13 = .ok (.ifCond .eq 10, 3) := by decide +kernel
theorem dX10_oneTest_16 : decode cX10_oneTest 16 = .ok (.aload_n 0, 1) := by decide +kernel
theorem dX10_oneTest_17 : decode cX10_oneTest 17 = .ok (.invokevirtual 215, 3) := by decide +kernel
theorem dX10_oneTest_20 : decode cX10_oneTest 20 = .ok (.ifCond .ne 5, 3) := by decide +kernel
theorem dX10_oneTest_23 : decode cX10_oneTest 23 = .ok (.iconst 0, 1) := by decide +kernel
theorem dX10_oneTest_24 : decode cX10_oneTest 24 = .ok (.ireturn, 1) := by decide +kernel
theorem dX10_oneTest_25 : decode cX10_oneTest 25 = .ok (.aload_n 0, 1) := by decide +kernel
theorem dX10_oneTest_26 : decode cX10_oneTest 26 = .ok (.dup, 1) := by decide +kernel
theorem dX10_oneTest_27 : decode cX10_oneTest 27 = .ok (.getfield 198, 3) := by decide +kernel
theorem dX10_oneTest_30 : decode cX10_oneTest 30 = .ok (.iconst 1, 1) := by decide +kernel
theorem dX10_oneTest_31 : decode cX10_oneTest 31 = .ok (.isub, 1) := by decide +kernel
theorem dX10_oneTest_32 : decode cX10_oneTest 32 = .ok (.putfield 198, 3) := by decide +kernel
theorem dX10_oneTest_35 : decode cX10_oneTest 35 = .ok (.aload_n 0, 1) := by decide +kernel
theorem dX10_oneTest_36 : decode cX10_oneTest 36 = .ok (.bipush 30, 2) := by decide +kernel
theorem dX10_oneTest_38 : decode cX10_oneTest 38 = .ok (.iconst 0, 1) := by decide +kernel
theorem dX10_oneTest_39 : decode cX10_oneTest 39 = .ok (.invokevirtual 205, 3) := by decide +kernel
theorem dX10_oneTest_42 : decode cX10_oneTest 42 = .ok (.iconst 1, 1) := by decide +kernel
theorem dX10_oneTest_43 : decode cX10_oneTest 43 = .ok (.ireturn, 1) := by decide +kernel
theorem dX10_oneTest_44 : decode cX10_oneTest 44 = .ok (.aload_n 0, 1) := by decide +kernel
theorem dX10_oneTest_45 : decode cX10_oneTest 45 = .ok (.getfield 168, 3) := by decide +kernel
theorem dX10_oneTest_48 : decode cX10_oneTest 48 = .ok (.sipush 140, 3) := by decide +kernel
theorem dX10_oneTest_51 : decode cX10_oneTest 51 = .ok (.if_icmp .ne 41, 3) := by decide +kernel
theorem dX10_oneTest_54 : decode cX10_oneTest 54 = .ok (.aload_n 0, 1) := by decide +kernel
theorem dX10_oneTest_55 : decode cX10_oneTest 55 = .ok (.invokevirtual 218, 3) := by decide +kernel
theorem dX10_oneTest_58 : decode cX10_oneTest 58 = .ok (.ifCond .eq 20, 3) := by decide +kernel
theorem dX10_oneTest_61 : decode cX10_oneTest 61 = .ok (.aload_n 0, 1) := by decide +kernel
theorem dX10_oneTest_62 : decode cX10_oneTest 62 = .ok (.invokevirtual 221, 3) := by decide +kernel
theorem dX10_oneTest_65 : decode cX10_oneTest 65 = .ok (.ifCond .eq 13, 3) := by decide +kernel
theorem dX10_oneTest_68 : decode cX10_oneTest 68 = .ok (.aload_n 0, 1) := by decide +kernel
theorem dX10_oneTest_69 : decode cX10_oneTest 69 = .ok (.sipush 141, 3) := by decide +kernel
theorem dX10_oneTest_72 : decode cX10_oneTest 72 = .ok (.invokevirtual 224, 3) := by decide +kernel
theorem dX10_oneTest_75 : decode cX10_oneTest 75 = .ok (.ifCond .ne 5, 3) := by decide +kernel
theorem dX10_oneTest_78 : decode cX10_oneTest 78 = .ok (.iconst 0, 1) := by decide +kernel
theorem dX10_oneTest_79 : decode cX10_oneTest 79 = .ok (.ireturn, 1) := by decide +kernel
theorem dX10_oneTest_80 : decode cX10_oneTest 80 = .ok (.aload_n 0, 1) := by decide +kernel
theorem dX10_oneTest_81 : decode cX10_oneTest 81 = .ok (.dup, 1) := by decide +kernel
theorem dX10_oneTest_82 : decode cX10_oneTest 82 = .ok (.getfield 198, 3) := by decide +kernel
theorem dX10_oneTest_85 : decode cX10_oneTest 85 = .ok (.iconst 1, 1) := by decide +kernel
theorem dX10_oneTest_86 : decode cX10_oneTest 86 = .ok (.isub, 1) := by decide +kernel
theorem dX10_oneTest_87 : decode cX10_oneTest 87 = .ok (.putfield 198, 3) := by decide +kernel
theorem dX10_oneTest_90 : decode cX10_oneTest 90 = .ok (.iconst 1, 1) := by decide +kernel
theorem dX10_oneTest_91 : decode cX10_oneTest 91 = .ok (.ireturn, 1) := by decide +kernel
theorem dX10_oneTest_92 : decode cX10_oneTest 92 = .ok (.aload_n 0, 1) := by decide +kernel
theorem dX10_oneTest_93 : decode cX10_oneTest 93 = .ok (.invokevirtual 226, 3) := by decide +kernel
theorem dX10_oneTest_96 : decode cX10_oneTest 96 = .ok (.ifCond .ne 5, 3) := by decide +kernel
theorem dX10_oneTest_99 : decode cX10_oneTest 99 = .ok (.iconst 0, 1) := by decide +kernel
theorem dX10_oneTest_100 : decode cX10_oneTest 100 = .ok (.ireturn, 1) := by decide +kernel
theorem dX10_oneTest_101 : decode cX10_oneTest 101 = .ok (.aload_n 0, 1) := by decide +kernel
theorem dX10_oneTest_102 : decode cX10_oneTest 102 = .ok (.getfield 168, 3) := by decide +kernel
theorem dX10_oneTest_105 : decode cX10_oneTest 105 = .ok (.sipush 160, 3) := by decide +kernel
theorem dX10_oneTest_108 : decode cX10_oneTest 108 = .ok (.if_icmp .ne 8, 3) := by decide +kernel
theorem dX10_oneTest_111 : decode cX10_oneTest 111 = .ok (.bipush 27, 2) := by decide +kernel
theorem dX10_oneTest_113 : decode cX10_oneTest 113 = .ok (.goto 34, 3) := by decide +kernel
theorem dX10_oneTest_116 : decode cX10_oneTest 116 = .ok (.aload_n 0, 1) := by decide +kernel
theorem dX10_oneTest_117 : decode cX10_oneTest 117 = .ok (.getfield 168, 3) := by decide +kernel
theorem dX10_oneTest_120 : decode cX10_oneTest 120 = .ok (.sipush 161, 3) := by decide +kernel
theorem dX10_oneTest_123 : decode cX10_oneTest 123 = .ok (.if_icmp .ne 8, 3) := by decide +kernel
theorem dX10_oneTest_126 : decode cX10_oneTest 126 = .ok (.bipush 28, 2) := by decide +kernel
theorem dX10_oneTest_128 : decode cX10_oneTest 128 = .ok (.goto 19, 3) := by decide +kernel
theorem dX10_oneTest_131 : decode cX10_oneTest 131 = .ok (.aload_n 0, 1) := by decide +kernel
theorem dX10_oneTest_132 : decode cX10_oneTest 132 = .ok (.getfield 168, 3) := by decide +kernel
theorem dX10_oneTest_135 : decode cX10_oneTest 135 = .ok (.sipush 162, 3) := by decide +kernel
theorem dX10_oneTest_138 : decode cX10_oneTest 138 = .ok (.if_icmp .ne 8, 3) := by decide +kernel
theorem dX10_oneTest_141 : decode cX10_oneTest 141 = .ok (.bipush 29, 2) := by decide +kernel
theorem dX10_oneTest_143 : decode cX10_oneTest 143 = .ok (.goto 4, 3) := by decide +kernel
theorem dX10_oneTest_146 : decode cX10_oneTest 146 = .ok (.iconst (-1), 1) := by decide +kernel
theorem dX10_oneTest_147 : decode cX10_oneTest 147 = .ok (.istore_n 1, 1) := by decide +kernel
theorem dX10_oneTest_148 : decode cX10_oneTest 148 = .ok (.iload_n 1, 1) := by decide +kernel
theorem dX10_oneTest_149 : decode cX10_oneTest 149 = .ok (.iconst (-1), 1) := by decide +kernel
theorem dX10_oneTest_150 : decode cX10_oneTest 150 = .ok (.if_icmp .ne 9, 3) := by decide +kernel
theorem dX10_oneTest_153 : decode cX10_oneTest 153 = .ok (.aload_n 0, 1) := by decide +kernel
theorem dX10_oneTest_154 : decode cX10_oneTest 154 = .ok (.iconst 1, 1) := by decide +kernel
theorem dX10_oneTest_155 : decode cX10_oneTest 155 = .ok (.invokevirtual 189, 3) := by decide +kernel
theorem dX10_oneTest_158 : decode cX10_oneTest 158 = .ok (.ireturn, 1) := by decide +kernel
theorem dX10_oneTest_159 : decode cX10_oneTest 159 = .ok (.aload_n 0, 1) := by decide +kernel
theorem dX10_oneTest_160 : decode cX10_oneTest 160 = .ok (.invokevirtual 192, 3) := by decide +kernel
theorem dX10_oneTest_163 : decode cX10_oneTest 163 = .ok (.aload_n 0, 1) := by decide +kernel
theorem dX10_oneTest_164 : decode cX10_oneTest 164 = .ok (.invokevirtual 226, 3) := by decide +kernel
theorem dX10_oneTest_167 : decode cX10_oneTest 167 = .ok (.ifCond .ne 5, 3) := by decide +kernel
theorem dX10_oneTest_170 : decode cX10_oneTest 170 = .ok (.iconst 0, 1) := by decide +kernel
theorem dX10_oneTest_171 : decode cX10_oneTest 171 = .ok (.ireturn, 1) := by decide +kernel
theorem dX10_oneTest_172 : decode cX10_oneTest 172 = .ok (.aload_n 0, 1) := by decide +kernel
theorem dX10_oneTest_173 : decode cX10_oneTest 173 = .ok (.iload_n 1, 1) := by decide +kernel
theorem dX10_oneTest_174 : decode cX10_oneTest 174 = .ok (.iconst 0, 1) := by decide +kernel
theorem dX10_oneTest_175 : decode cX10_oneTest 175 = .ok (.invokevirtual 205, 3) := by decide +kernel
theorem dX10_oneTest_178 : decode cX10_oneTest 178 = .ok (.iconst 1, 1) := by decide +kernel
theorem dX10_oneTest_179 : decode cX10_oneTest 179 = .ok (.ireturn, 1) := by decide +kernel
theorem dX10_aLine_0 : decode cX10_aLine 0 = .ok (.aload_n 0, 1) := by decide +kernel
theorem dX10_aLine_1 : decode cX10_aLine 1 = .ok (.getfield 168, 3) := by decide +kernel
theorem dX10_aLine_4 : decode cX10_aLine 4 = .ok (.bipush 20, 2) := by decide +kernel
theorem dX10_aLine_6 : decode cX10_aLine 6 = .ok (.bipush 22, 2) := by decide +kernel
theorem dX10_aLine_8 : decode cX10_aLine 8 = .ok (.invokestatic 59, 3) := by decide +kernel
theorem dX10_aLine_11 : decode cX10_aLine 11 = .ok (.ifCond .ne 9, 3) := by decide +kernel
theorem dX10_aLine_14 : decode cX10_aLine 14 = .ok (.aload_n 0, 1) := by decide +kernel
theorem dX10_aLine_15 : decode cX10_aLine 15 = .ok (.iconst 1, 1) := by decide +kernel
theorem dX10_aLine_16 : decode cX10_aLine 16 = .ok (.invokevirtual 189, 3) := by decide +kernel
theorem dX10_aLine_19 : decode cX10_aLine 19 = .ok (.ireturn, 1) := by decide +kernel
theorem dX10_aLine_20 : decode cX10_aLine 20 = .ok (.aload_n 0, 1) := by decide +kernel
theorem dX10_aLine_21 : decode cX10_aLine 21 = .ok (.getfield 229, 3) := by decide +kernel
theorem dX10_aLine_24 : decode cX10_aLine 24 = .ok (.bipush 16, 2) := by decide +kernel
theorem dX10_aLine_26 : decode cX10_aLine 26 = .ok (.if_icmp .ne 9, 3) := by decide +kernel
theorem dX10_aLine_29 : decode cX10_aLine 29 = .ok (.aload_n 0, 1) := by decide +kernel
theorem dX10_aLine_30 : decode cX10_aLine 30 = .ok (.iconst 3, 1) := by decide +kernel
theorem dX10_aLine_31 : decode cX10_aLine 31 = .ok (.invokevirtual 189, 3) := by decide +kernel
theorem dX10_aLine_34 : decode cX10_aLine 34 = .ok (.ireturn, 1) := by decide +kernel
theorem dX10_aLine_35 : decode cX10_aLine 35 = .ok (.aload_n 0, 1) := by decide +kernel
theorem dX10_aLine_36 : decode cX10_aLine 36 = .ok (.iconst 0, 1) := by decide +kernel
theorem dX10_aLine_37 : decode cX10_aLine 37 = .ok (.putfield 198, 3) := by decide +kernel
theorem dX10_aLine_40 : decode cX10_aLine 40 = .ok (.aload_n 0, 1) := by decide +kernel
theorem dX10_aLine_41 : decode cX10_aLine 41 = .ok (.getfield 22, 3) := by decide +kernel
theorem dX10_aLine_44 : decode cX10_aLine 44 = .ok (.iconst 4, 1) := by decide +kernel
theorem dX10_aLine_45 : decode cX10_aLine 45 = .ok (.aload_n 0, 1) := by decide +kernel
theorem dX10_aLine_46 : decode cX10_aLine 46 = .ok (.getfield 229, 3) := by decide +kernel
theorem dX10_aLine_49 : decode cX10_aLine 49 = .ok (.imul, 1) := by decide +kernel
theorem dX10_aLine_50 : decode cX10_aLine 50 = .ok (.iconst 3, 1) := by decide +kernel
theorem dX10_aLine_51 : decode cX10_aLine 51 = .ok (.iadd, 1) := by decide +kernel
theorem dX10_aLine_52 : decode cX10_aLine 52 = .ok (.aload_n 0, 1) := by decide +kernel
theorem dX10_aLine_53 : decode cX10_aLine 53 = .ok (.getfield 168, 3) := by decide +kernel
theorem dX10_aLine_56 : decode cX10_aLine 56 = .ok (.iastore, 1) := by decide +kernel
theorem dX10_aLine_57 : decode cX10_aLine 57 = .ok (.aload_n 0, 1) := by decide +kernel
theorem dX10_aLine_58 : decode cX10_aLine 58 = .ok (.invokevirtual 192, 3) := by decide +kernel
theorem dX10_aLine_61 : decode cX10_aLine 61 = .ok (.aload_n 0, 1) := by decide +kernel
theorem dX10_aLine_62 : decode cX10_aLine 62 = .ok (.getfield 22, 3) := by decide +kernel
theorem dX10_aLine_65 : decode cX10_aLine 65 = .ok (.iconst 4, 1) := by decide +kernel
theorem dX10_aLine_66 : decode cX10_aLine 66 = .ok (.aload_n 0, 1) := by decide +kernel
theorem dX10_aLine_67 : decode cX10_aLine 67 = .ok (.getfield 229, 3) := by decide +kernel
theorem dX10_aLine_70 : decode cX10_aLine 70 = .ok (.imul, 1) := by decide +kernel
theorem dX10_aLine_71 : decode cX10_aLine 71 = .ok (.aload_n 0, 1) := by decide +kernel
theorem dX10_aLine_72 : decode cX10_aLine 72 = .ok (.getfield 195, 3) := by decide +kernel
theorem dX10_aLine_75 : decode cX10_aLine 75 = .ok (.iastore, 1) := by decide +kernel
theorem dX10_aLine_76 : decode cX10_aLine 76 = .ok (.aload_n 0, 1) := by decide +kernel
theorem dX10_aLine_77 : decode cX10_aLine 77 = .ok (.invokevirtual 226, 3) := by decide +kernel
theorem dX10_aLine_80 : decode cX10_aLine 80 = .ok (.ifCond .ne 5, 3) := by decide +kernel
theorem dX10_aLine_83 : decode cX10_aLine 83 = .ok (.iconst 0, 1) := by decide +kernel
theorem dX10_aLine_84 : decode cX10_aLine 84 = .ok (.ireturn, 1) := by decide +kernel
theorem dX10_aLine_85 : decode cX10_aLine 85 = .ok (.aload_n 0, 1) := by decide +kernel
theorem dX10_aLine_86 : decode cX10_aLine 86 = .ok (.getfield 22, 3) := by decide +kernel
theorem dX10_aLine_89 : decode cX10_aLine 89 = .ok (.iconst 4, 1) := by decide +kernel
theorem dX10_aLine_90 : decode cX10_aLine 90 = .ok (.aload_n 0, 1) := by decide +kernel
theorem dX10_aLine_91 : decode cX10_aLine 91 = .ok (.getfield 229, 3) := by decide +kernel
theorem dX10_aLine_94 : decode cX10_aLine 94 = .ok (.imul, 1) := by decide +kernel
theorem dX10_aLine_95 : decode cX10_aLine 95 = .ok (.iconst 1, 1) := by decide +kernel
theorem dX10_aLine_96 : decode cX10_aLine 96 = .ok (.iadd, 1) := by decide +kernel
theorem dX10_aLine_97 : decode cX10_aLine 97 = .ok (.aload_n 0, 1) := by decide +kernel
theorem dX10_aLine_98 : decode cX10_aLine 98 = .ok (.getfield 195, 3) := by decide +kernel
theorem dX10_aLine_101 : decode cX10_aLine 101 = .ok (.iastore, 1) := by decide +kernel
theorem dX10_aLine_102 : decode cX10_aLine 102 = .ok (.aload_n 0, 1) := by decide +kernel
theorem dX10_aLine_103 : decode cX10_aLine 103 = .ok (.getfield 168, 3) := by decide +kernel
theorem dX10_aLine_106 : decode cX10_aLine 106 = .ok (.iconst 3, 1) := by decide +kernel
theorem dX10_aLine_107 : decode cX10_aLine 107 = .ok (.if_icmp .ne 16, 3) := by decide +kernel
theorem dX10_aLine_110 : decode cX10_aLine 110 = .ok (.aload_n 0, 1) := by decide +kernel
theorem dX10_aLine_111 : decode cX10_aLine 111 = .ok (.invokevirtual 192, 3) := by decide +kernel
theorem dX10_aLine_114 : decode cX10_aLine 114 = .ok (.aload_n 0, 1) := by decide +kernel
theorem dX10_aLine_115 : decode cX10_aLine 115 = .ok (.invokevirtual 221, 3) := by decide +kernel
theorem dX10_aLine_118 : decode cX10_aLine 118 = .ok (.ifCond .ne 5, 3) := by decide +kernel
theorem dX10_aLine_121 : decode cX10_aLine 121 = .ok (.iconst 0, 1) := by decide +kernel
theorem dX10_aLine_122 : decode cX10_aLine 122 = .ok (.ireturn, 1) := by decide +kernel
theorem dX10_aLine_123 : decode cX10_aLine 123 = .ok (.aload_n 0, 1) := by decide +kernel
theorem dX10_aLine_124 : decode cX10_aLine 124 = .ok (.getfield 22, 3) := by decide +kernel
theorem dX10_aLine_127 : decode cX10_aLine 127 = .ok (.iconst 4, 1) := by decide +kernel
theorem dX10_aLine_128 : decode cX10_aLine 128 = .ok (.aload_n 0, 1) := by decide +kernel
theorem dX10_aLine_129 : decode cX10_aLine 129 = .ok (.getfield 229, 3) := by decide +kernel
theorem dX10_aLine_132 : decode cX10_aLine 132 = .ok (.imul, 1) := by decide +kernel
theorem dX10_aLine_133 : decode cX10_aLine 133 = .ok (.iconst 2, 1) := by decide +kernel
theorem dX10_aLine_134 : decode cX10_aLine 134 = .ok (.iadd, 1) := by decide +kernel
theorem dX10_aLine_135 : decode cX10_aLine 135 = .ok (.aload_n 0, 1) := by decide +kernel
theorem dX10_aLine_136 : decode cX10_aLine 136 = .ok (.getfield 195, 3) := by decide +kernel
theorem dX10_aLine_139 : decode cX10_aLine 139 = .ok (.iastore, 1) := by decide +kernel
theorem dX10_aLine_140 : decode cX10_aLine 140 = .ok (.aload_n 0, 1) := by decide +kernel
theorem dX10_aLine_141 : decode cX10_aLine 141 = .ok (.sipush 159, 3) := by decide +kernel
theorem dX10_aLine_144 : decode cX10_aLine 144 = .ok (.invokevirtual 224, 3) := by decide +kernel
theorem dX10_aLine_147 : decode cX10_aLine 147 = .ok (.ireturn, 1) := by decide +kernel
theorem dX10_readsLaw_0 : decode cX10_readsLaw 0 = .ok (.aload_n 0, 1) := by decide +kernel
theorem dX10_readsLaw_1 : decode cX10_readsLaw 1 = .ok (.iconst 0, 1) := by decide +kernel
theorem dX10_readsLaw_2 : decode cX10_readsLaw 2 = .ok (.putfield 229, 3) := by decide +kernel
theorem dX10_readsLaw_5 : decode cX10_readsLaw 5 = .ok (.aload_n 0, 1) := by decide +kernel
theorem dX10_readsLaw_6 : decode cX10_readsLaw 6 = .ok (.iconst 0, 1) := by decide +kernel
theorem dX10_readsLaw_7 : decode cX10_readsLaw 7 = .ok (.putfield 195, 3) := by decide +kernel
theorem dX10_readsLaw_10 : decode cX10_readsLaw 10 = .ok (.iconst 1, 1) := by decide +kernel
theorem dX10_readsLaw_11 : decode cX10_readsLaw 11 = .ok (.istore_n 1, 1) := by decide +kernel
theorem dX10_readsLaw_12 : decode cX10_readsLaw 12 = .ok (.iload_n 1, 1) := by decide +kernel
theorem dX10_readsLaw_13 : decode cX10_readsLaw 13 = .ok (.ifCond .eq 36, 3) := by decide +kernel
theorem dX10_readsLaw_16 : decode cX10_readsLaw 16 = .ok (.aload_n 0, 1) := by decide +kernel
theorem dX10_readsLaw_17 : decode cX10_readsLaw 17 = .ok (.getfield 168, 3) := by decide +kernel
theorem dX10_readsLaw_20 : decode cX10_readsLaw 20 = .ok (.ifCond .eq 29, 3) := by decide +kernel
theorem dX10_readsLaw_23 : decode cX10_readsLaw 23 = .ok (.aload_n 0, 1) := by decide +kernel
theorem dX10_readsLaw_24 : decode cX10_readsLaw 24 = .ok (.invokevirtual 232, 3) := by decide +kernel
theorem dX10_readsLaw_27 : decode cX10_readsLaw 27 = .ok (.istore_n 1, 1) := by decide +kernel
theorem dX10_readsLaw_28 : decode cX10_readsLaw 28 = .ok (.aload_n 0, 1) := by decide +kernel
theorem dX10_readsLaw_29 : decode cX10_readsLaw 29 = .ok (.dup, 1) := by decide +kernel
theorem dX10_readsLaw_30 : decode cX10_readsLaw 30 = .ok (.getfield 229, 3) := by decide +kernel
theorem dX10_readsLaw_33 : decode cX10_readsLaw 33 = .ok (.iload_n 1, 1) := by decide +kernel
theorem dX10_readsLaw_34 : decode cX10_readsLaw 34 = .ok (.ifCond .eq 7, 3) := by decide +kernel
theorem dX10_readsLaw_37 : decode cX10_readsLaw 37 = .ok (.iconst 1, 1) := by decide +kernel
theorem dX10_readsLaw_38 : decode cX10_readsLaw 38 = .ok (.goto 4, 3) := by decide +kernel
theorem dX10_readsLaw_41 : decode cX10_readsLaw 41 = .ok (.iconst 0, 1) := by decide +kernel
theorem dX10_readsLaw_42 : decode cX10_readsLaw 42 = .ok (.iadd, 1) := by decide +kernel
theorem dX10_readsLaw_43 : decode cX10_readsLaw 43 = .ok (.putfield 229, 3) := by decide +kernel
theorem dX10_readsLaw_46 : decode cX10_readsLaw 46 = .ok (.goto (-34), 3) := by decide +kernel
theorem dX10_readsLaw_49 : decode cX10_readsLaw 49 = .ok (.iload_n 1, 1) := by decide +kernel
theorem dX10_readsLaw_50 : decode cX10_readsLaw 50 = .ok (.ireturn, 1) := by decide +kernel
theorem dX10_number_0 : decode cX10_number 0 = .ok (.aload_n 0, 1) := by decide +kernel
theorem dX10_number_1 : decode cX10_number 1 = .ok (.getfield 168, 3) := by decide +kernel
theorem dX10_number_4 : decode cX10_number 4 = .ok (.iconst 2, 1) := by decide +kernel
theorem dX10_number_5 : decode cX10_number 5 = .ok (.if_icmp .eq 9, 3) := by decide +kernel
theorem dX10_number_8 : decode cX10_number 8 = .ok (.aload_n 0, 1) := by decide +kernel
theorem dX10_number_9 : decode cX10_number 9 = .ok (.iconst 1, 1) := by decide +kernel
theorem dX10_number_10 : decode cX10_number 10 = .ok (.invokevirtual 189, 3) := by decide +kernel
theorem dX10_number_13 : decode cX10_number 13 = .ok (.ireturn, 1) := by decide +kernel
theorem dX10_number_14 : decode cX10_number 14 = .ok (.aload_n 0, 1) := by decide +kernel
theorem dX10_number_15 : decode cX10_number 15 = .ok (.getfield 180, 3) := by decide +kernel
theorem dX10_number_18 : decode cX10_number 18 = .ok (.iload_n 1, 1) := by decide +kernel
theorem dX10_number_19 : decode cX10_number 19 = .ok (.iload_n 2, 1) := by decide +kernel
theorem dX10_number_20 : decode cX10_number 20 = .ok (.invokestatic 59, 3) := by decide +kernel
theorem dX10_number_23 : decode cX10_number 23 = .ok (.ifCond .ne 9, 3) := by decide +kernel
theorem dX10_number_26 : decode cX10_number 26 = .ok (.aload_n 0, 1) := by decide +kernel
theorem dX10_number_27 : decode cX10_number 27 = .ok (.iconst 2, 1) := by decide +kernel
theorem dX10_number_28 : decode cX10_number 28 = .ok (.invokevirtual 189, 3) := by decide +kernel
theorem dX10_number_31 : decode cX10_number 31 = .ok (.ireturn, 1) := by decide +kernel
theorem dX10_number_32 : decode cX10_number 32 = .ok (.aload_n 0, 1) := by decide +kernel
theorem dX10_number_33 : decode cX10_number 33 = .ok (.aload_n 0, 1) := by decide +kernel
theorem dX10_number_34 : decode cX10_number 34 = .ok (.getfield 180, 3) := by decide +kernel
theorem dX10_number_37 : decode cX10_number 37 = .ok (.putfield 235, 3) := by decide +kernel
theorem dX10_number_40 : decode cX10_number 40 = .ok (.aload_n 0, 1) := by decide +kernel
theorem dX10_number_41 : decode cX10_number 41 = .ok (.invokevirtual 192, 3) := by decide +kernel
theorem dX10_number_44 : decode cX10_number 44 = .ok (.iconst 1, 1) := by decide +kernel
theorem dX10_number_45 : decode cX10_number 45 = .ok (.ireturn, 1) := by decide +kernel
theorem dX10_aWording_0 : decode cX10_aWording 0 = .ok (.iconst 0, 1) := by decide +kernel
theorem dX10_aWording_1 : decode cX10_aWording 1 = .ok (.istore_n 2, 1) := by decide +kernel
theorem dX10_aWording_2 : decode cX10_aWording 2 = .ok (.iconst 1, 1) := by decide +kernel
theorem dX10_aWording_3 : decode cX10_aWording 3 = .ok (.istore_n 3, 1) := by decide +kernel
theorem dX10_aWording_4 : decode cX10_aWording 4 = .ok (.iload_n 3, 1) := by decide +kernel
theorem dX10_aWording_5 : decode cX10_aWording 5 = .ok (.ifCond .eq 87, 3) := by decide +kernel
theorem dX10_aWording_8 : decode cX10_aWording 8 = .ok (.aload_n 0, 1) := by decide +kernel
theorem dX10_aWording_9 : decode cX10_aWording 9 = .ok (.getfield 168, 3) := by decide +kernel
theorem dX10_aWording_12 : decode cX10_aWording 12 = .ok (.iconst 2, 1) := by decide +kernel
theorem dX10_aWording_13 : decode cX10_aWording 13 = .ok (.if_icmp .ne 26, 3) := by decide +kernel
theorem dX10_aWording_16 : decode cX10_aWording 16 = .ok (.aload_n 0, 1) := by decide +kernel
theorem dX10_aWording_17 : decode cX10_aWording 17 = .ok (.aload_n 0, 1) := by decide +kernel
theorem dX10_aWording_18 : decode cX10_aWording 18 = .ok (.getfield 180, 3) := by decide +kernel
theorem dX10_aWording_21 : decode cX10_aWording 21 = .ok (.invokevirtual 78, 3) := by decide +kernel
theorem dX10_aWording_24 : decode cX10_aWording 24 = .ok (.ifCond .eq 15, 3) := by decide +kernel
theorem dX10_aWording_27 : decode cX10_aWording 27 = .ok (.iload_n 2, 1) := by decide +kernel
theorem dX10_aWording_28 : decode cX10_aWording 28 = .ok (.bipush 6, 2) := by decide +kernel
theorem dX10_aWording_30 : decode cX10_aWording 30 = .ok (.if_icmp .ne 9, 3) := by decide +kernel
theorem dX10_aWording_33 : decode cX10_aWording 33 = .ok (.aload_n 0, 1) := by decide +kernel
theorem dX10_aWording_34 : decode cX10_aWording 34 = .ok (.iconst 3, 1) := by decide +kernel
theorem dX10_aWording_35 : decode cX10_aWording 35 = .ok (.invokevirtual 189, 3) := by decide +kernel
theorem dX10_aWording_38 : decode cX10_aWording 38 = .ok (.ireturn, 1) := by decide +kernel
theorem dX10_aWording_39 : decode cX10_aWording 39 = .ok (.aload_n 0, 1) := by decide +kernel
theorem dX10_aWording_40 : decode cX10_aWording 40 = .ok (.iconst 0, 1) := by decide +kernel
theorem dX10_aWording_41 : decode cX10_aWording 41 = .ok (.aload_n 0, 1) := by decide +kernel
theorem dX10_aWording_42 : decode cX10_aWording 42 = .ok (.getfield 7, 3) := by decide +kernel
theorem dX10_aWording_45 : decode cX10_aWording 45 = .ok (.bipush 62, 2) := by decide +kernel
theorem dX10_aWording_47 : decode cX10_aWording 47 = .ok (.iaload, 1) := by decide +kernel
theorem dX10_aWording_48 : decode cX10_aWording 48 = .ok (.iconst 1, 1) := by decide +kernel
theorem dX10_aWording_49 : decode cX10_aWording 49 = .ok (.isub, 1) := by decide +kernel
theorem dX10_aWording_50 : decode cX10_aWording 50 = .ok (.invokevirtual 238, 3) := by decide +kernel
theorem dX10_aWording_53 : decode cX10_aWording 53 = .ok (.ifCond .ne 5, 3) := by decide +kernel
theorem dX10_aWording_56 : decode cX10_aWording 56 = .ok (.iconst 0, 1) := by decide +kernel
theorem dX10_aWording_57 : decode cX10_aWording 57 = .ok (.ireturn, 1) := by decide +kernel
theorem dX10_aWording_58 : decode cX10_aWording 58 = .ok (.aload_n 0, 1) := by decide +kernel
theorem dX10_aWording_59 : decode cX10_aWording 59 = .ok (.getfield 31, 3) := by decide +kernel
theorem dX10_aWording_62 : decode cX10_aWording 62 = .ok (.iload_n 1, 1) := by decide +kernel
theorem dX10_aWording_63 : decode cX10_aWording 63 = .ok (.iconst 1, 1) := by decide +kernel
theorem dX10_aWording_64 : decode cX10_aWording 64 = .ok (.iadd, 1) := by decide +kernel
theorem dX10_aWording_65 : decode cX10_aWording 65 = .ok (.iload_n 2, 1) := by decide +kernel
theorem dX10_aWording_66 : decode cX10_aWording 66 = .ok (.iadd, 1) := by decide +kernel
theorem dX10_aWording_67 : decode cX10_aWording 67 = .ok (.aload_n 0, 1) := by decide +kernel
theorem dX10_aWording_68 : decode cX10_aWording 68 = .ok (.getfield 235, 3) := by decide +kernel
theorem dX10_aWording_71 : decode cX10_aWording 71 = .ok (.iastore, 1) := by decide +kernel
theorem dX10_aWording_72 : decode cX10_aWording 72 = .ok (.iinc 2 1, 3) := by decide +kernel
theorem dX10_aWording_75 : decode cX10_aWording 75 = .ok (.aload_n 0, 1) := by decide +kernel
theorem dX10_aWording_76 : decode cX10_aWording 76 = .ok (.getfield 168, 3) := by decide +kernel
theorem dX10_aWording_79 : decode cX10_aWording 79 = .ok (.iconst 2, 1) := by decide +kernel
theorem dX10_aWording_80 : decode cX10_aWording 80 = .ok (.if_icmp .ne 7, 3) := by decide +kernel
theorem dX10_aWording_83 : decode cX10_aWording 83 = .ok (.iconst 1, 1) := by decide +kernel
theorem dX10_aWording_84 : decode cX10_aWording 84 = .ok (.goto 4, 3) := by decide +kernel
theorem dX10_aWording_87 : decode cX10_aWording 87 = .ok (.iconst 0, 1) := by decide +kernel
theorem dX10_aWording_88 : decode cX10_aWording 88 = .ok (.istore_n 3, 1) := by decide +kernel
theorem dX10_aWording_89 : decode cX10_aWording 89 = .ok (.goto (-85), 3) := by decide +kernel
theorem dX10_aWording_92 : decode cX10_aWording 92 = .ok (.aload_n 0, 1) := by decide +kernel
theorem dX10_aWording_93 : decode cX10_aWording 93 = .ok (.getfield 31, 3) := by decide +kernel
theorem dX10_aWording_96 : decode cX10_aWording 96 = .ok (.iload_n 1, 1) := by decide +kernel
theorem dX10_aWording_97 : decode cX10_aWording 97 = .ok (.iload_n 2, 1) := by decide +kernel
theorem dX10_aWording_98 : decode cX10_aWording 98 = .ok (.iastore, 1) := by decide +kernel
theorem dX10_aWording_99 : decode cX10_aWording 99 = .ok (.iconst 1, 1) := by decide +kernel
theorem dX10_aWording_100 : decode cX10_aWording 100 = .ok (.ireturn, 1) := by decide +kernel
theorem dX10_aMeaning_0 : decode cX10_aMeaning 0 = .ok (.aload_n 0, 1) := by decide +kernel
theorem dX10_aMeaning_1 : decode cX10_aMeaning 1 = .ok (.getfield 168, 3) := by decide +kernel
theorem dX10_aMeaning_4 : decode cX10_aMeaning 4 = .ok (.bipush 7, 2) := by decide +kernel
theorem dX10_aMeaning_6 : decode cX10_aMeaning 6 = .ok (.if_icmp .eq 9, 3) := by decide +kernel
theorem dX10_aMeaning_9 : decode cX10_aMeaning 9 = .ok (.aload_n 0, 1) := by decide +kernel
theorem dX10_aMeaning_10 : decode cX10_aMeaning 10 = .ok (.iconst 1, 1) := by decide +kernel
theorem dX10_aMeaning_11 : decode cX10_aMeaning 11 = .ok (.invokevirtual 189, 3) := by decide +kernel
theorem dX10_aMeaning_14 : decode cX10_aMeaning 14 = .ok (.ireturn, 1) := by decide +kernel
theorem dX10_aMeaning_15 : decode cX10_aMeaning 15 = .ok (.aload_n 0, 1) := by decide +kernel
theorem dX10_aMeaning_16 : decode cX10_aMeaning 16 = .ok (.getfield 242, 3) := by decide +kernel
theorem dX10_aMeaning_19 : decode cX10_aMeaning 19 = .ok (.bipush 10, 2) := by decide +kernel
theorem dX10_aMeaning_21 : decode cX10_aMeaning 21 = .ok (.if_icmp .ne 9, 3) := by decide +kernel
theorem dX10_aMeaning_24 : decode cX10_aMeaning 24 = .ok (.aload_n 0, 1) := by decide +kernel
theorem dX10_aMeaning_25 : decode cX10_aMeaning 25 = .ok (.iconst 3, 1) := by decide +kernel
theorem dX10_aMeaning_26 : decode cX10_aMeaning 26 = .ok (.invokevirtual 189, 3) := by decide +kernel
theorem dX10_aMeaning_29 : decode cX10_aMeaning 29 = .ok (.ireturn, 1) := by decide +kernel
theorem dX10_aMeaning_30 : decode cX10_aMeaning 30 = .ok (.aload_n 0, 1) := by decide +kernel
theorem dX10_aMeaning_31 : decode cX10_aMeaning 31 = .ok (.invokevirtual 192, 3) := by decide +kernel
theorem dX10_aMeaning_34 : decode cX10_aMeaning 34 = .ok (.iconst 0, 1) := by decide +kernel
theorem dX10_aMeaning_35 : decode cX10_aMeaning 35 = .ok (.istore_n 1, 1) := by decide +kernel
theorem dX10_aMeaning_36 : decode cX10_aMeaning 36 = .ok (.iconst 1, 1) := by decide +kernel
theorem dX10_aMeaning_37 : decode cX10_aMeaning 37 = .ok (.istore_n 2, 1) := by decide +kernel
theorem dX10_aMeaning_38 : decode cX10_aMeaning 38 = .ok (.iload_n 2, 1) := by decide +kernel
theorem dX10_aMeaning_39 : decode cX10_aMeaning 39 = .ok (.ifCond .eq 68, 3) := by decide +kernel
theorem dX10_aMeaning_42 : decode cX10_aMeaning 42 = .ok (.aload_n 0, 1) := by decide +kernel
theorem dX10_aMeaning_43 : decode cX10_aMeaning 43 = .ok (.bipush 42, 2) := by decide +kernel
theorem dX10_aMeaning_45 : decode cX10_aMeaning 45 = .ok (.aload_n 0, 1) := by decide +kernel
theorem dX10_aMeaning_46 : decode cX10_aMeaning 46 = .ok (.getfield 242, 3) := by decide +kernel
theorem dX10_aMeaning_49 : decode cX10_aMeaning 49 = .ok (.imul, 1) := by decide +kernel
theorem dX10_aMeaning_50 : decode cX10_aMeaning 50 = .ok (.bipush 7, 2) := by decide +kernel
theorem dX10_aMeaning_52 : decode cX10_aMeaning 52 = .ok (.iload_n 1, 1) := by decide +kernel
theorem dX10_aMeaning_53 : decode cX10_aMeaning 53 = .ok (.imul, 1) := by decide +kernel
theorem dX10_aMeaning_54 : decode cX10_aMeaning 54 = .ok (.iadd, 1) := by decide +kernel
theorem dX10_aMeaning_55 : decode cX10_aMeaning 55 = .ok (.invokevirtual 245, 3) := by decide +kernel
theorem dX10_aMeaning_58 : decode cX10_aMeaning 58 = .ok (.ifCond .ne 5, 3) := by decide +kernel
theorem dX10_aMeaning_61 : decode cX10_aMeaning 61 = .ok (.iconst 0, 1) := by decide +kernel
theorem dX10_aMeaning_62 : decode cX10_aMeaning 62 = .ok (.ireturn, 1) := by decide +kernel
theorem dX10_aMeaning_63 : decode cX10_aMeaning 63 = .ok (.iinc 1 1, 3) := by decide +kernel
theorem dX10_aMeaning_66 : decode cX10_aMeaning 66 = .ok (.aload_n 0, 1) := by decide +kernel
theorem dX10_aMeaning_67 : decode cX10_aMeaning 67 = .ok (.getfield 168, 3) := by decide +kernel
theorem dX10_aMeaning_70 : decode cX10_aMeaning 70 = .ok (.iconst 4, 1) := by decide +kernel
theorem dX10_aMeaning_71 : decode cX10_aMeaning 71 = .ok (.if_icmp .ne 7, 3) := by decide +kernel
theorem dX10_aMeaning_74 : decode cX10_aMeaning 74 = .ok (.iconst 1, 1) := by decide +kernel
theorem dX10_aMeaning_75 : decode cX10_aMeaning 75 = .ok (.goto 4, 3) := by decide +kernel
theorem dX10_aMeaning_78 : decode cX10_aMeaning 78 = .ok (.iconst 0, 1) := by decide +kernel
theorem dX10_aMeaning_79 : decode cX10_aMeaning 79 = .ok (.istore_n 2, 1) := by decide +kernel
theorem dX10_aMeaning_80 : decode cX10_aMeaning 80 = .ok (.iload_n 2, 1) := by decide +kernel
theorem dX10_aMeaning_81 : decode cX10_aMeaning 81 = .ok (.ifCond .eq 15, 3) := by decide +kernel
theorem dX10_aMeaning_84 : decode cX10_aMeaning 84 = .ok (.iload_n 1, 1) := by decide +kernel
theorem dX10_aMeaning_85 : decode cX10_aMeaning 85 = .ok (.bipush 6, 2) := by decide +kernel
theorem dX10_aMeaning_87 : decode cX10_aMeaning 87 = .ok (.if_icmp .ne 9, 3) := by decide +kernel
theorem dX10_aMeaning_90 : decode cX10_aMeaning 90 = .ok (.aload_n 0, 1) := by decide +kernel
theorem dX10_aMeaning_91 : decode cX10_aMeaning 91 = .ok (.iconst 3, 1) := by decide +kernel
theorem dX10_aMeaning_92 : decode cX10_aMeaning 92 = .ok (.invokevirtual 189, 3) := by decide +kernel
theorem dX10_aMeaning_95 : decode cX10_aMeaning 95 = .ok (.ireturn, 1) := by decide +kernel
theorem dX10_aMeaning_96 : decode cX10_aMeaning 96 = .ok (.iload_n 2, 1) := by decide +kernel
theorem dX10_aMeaning_97 : decode cX10_aMeaning 97 = .ok (.ifCond .eq (-59), 3) := by decide +kernel
theorem dX10_aMeaning_100 : decode cX10_aMeaning 100 = .ok (.aload_n 0, 1) := by decide +kernel
theorem dX10_aMeaning_101 : decode cX10_aMeaning 101 = .ok (.invokevirtual 192, 3) := by decide +kernel
theorem dX10_aMeaning_104 : decode cX10_aMeaning 104 = .ok (.goto (-66), 3) := by decide +kernel
theorem dX10_aMeaning_107 : decode cX10_aMeaning 107 = .ok (.aload_n 0, 1) := by decide +kernel
theorem dX10_aMeaning_108 : decode cX10_aMeaning 108 = .ok (.getfield 28, 3) := by decide +kernel
theorem dX10_aMeaning_111 : decode cX10_aMeaning 111 = .ok (.aload_n 0, 1) := by decide +kernel
theorem dX10_aMeaning_112 : decode cX10_aMeaning 112 = .ok (.getfield 242, 3) := by decide +kernel
theorem dX10_aMeaning_115 : decode cX10_aMeaning 115 = .ok (.iload_n 1, 1) := by decide +kernel
theorem dX10_aMeaning_116 : decode cX10_aMeaning 116 = .ok (.iastore, 1) := by decide +kernel
theorem dX10_aMeaning_117 : decode cX10_aMeaning 117 = .ok (.aload_n 0, 1) := by decide +kernel
theorem dX10_aMeaning_118 : decode cX10_aMeaning 118 = .ok (.dup, 1) := by decide +kernel
theorem dX10_aMeaning_119 : decode cX10_aMeaning 119 = .ok (.getfield 242, 3) := by decide +kernel
theorem dX10_aMeaning_122 : decode cX10_aMeaning 122 = .ok (.iconst 1, 1) := by decide +kernel
theorem dX10_aMeaning_123 : decode cX10_aMeaning 123 = .ok (.iadd, 1) := by decide +kernel
theorem dX10_aMeaning_124 : decode cX10_aMeaning 124 = .ok (.putfield 242, 3) := by decide +kernel
theorem dX10_aMeaning_127 : decode cX10_aMeaning 127 = .ok (.aload_n 0, 1) := by decide +kernel
theorem dX10_aMeaning_128 : decode cX10_aMeaning 128 = .ok (.sipush 159, 3) := by decide +kernel
theorem dX10_aMeaning_131 : decode cX10_aMeaning 131 = .ok (.invokevirtual 224, 3) := by decide +kernel
theorem dX10_aMeaning_134 : decode cX10_aMeaning 134 = .ok (.ireturn, 1) := by decide +kernel
theorem dX10_told_0 : decode cX10_told 0 = .ok (.aload_n 0, 1) := by decide +kernel
theorem dX10_told_1 : decode cX10_told 1 = .ok (.iload_n 2, 1) := by decide +kernel
theorem dX10_told_2 : decode cX10_told 2 = .ok (.iload_n 3, 1) := by decide +kernel
theorem dX10_told_3 : decode cX10_told 3 = .ok (.invokevirtual 238, 3) := by decide +kernel
theorem dX10_told_6 : decode cX10_told 6 = .ok (.ifCond .ne 5, 3) := by decide +kernel
theorem dX10_told_9 : decode cX10_told 9 = .ok (.iconst 0, 1) := by decide +kernel
theorem dX10_told_10 : decode cX10_told 10 = .ok (.ireturn, 1) := by decide +kernel
theorem dX10_told_11 : decode cX10_told 11 = .ok (.aload_n 0, 1) := by decide +kernel
theorem dX10_told_12 : decode cX10_told 12 = .ok (.getfield 34, 3) := by decide +kernel
theorem dX10_told_15 : decode cX10_told 15 = .ok (.iload_n 1, 1) := by decide +kernel
theorem dX10_told_16 : decode cX10_told 16 = .ok (.aload_n 0, 1) := by decide +kernel
theorem dX10_told_17 : decode cX10_told 17 = .ok (.getfield 235, 3) := by decide +kernel
theorem dX10_told_20 : decode cX10_told 20 = .ok (.iastore, 1) := by decide +kernel
theorem dX10_told_21 : decode cX10_told 21 = .ok (.iconst 1, 1) := by decide +kernel
theorem dX10_told_22 : decode cX10_told 22 = .ok (.ireturn, 1) := by decide +kernel
theorem dX10_aWalk_0 : decode cX10_aWalk 0 = .ok (.aload_n 0, 1) := by decide +kernel
theorem dX10_aWalk_1 : decode cX10_aWalk 1 = .ok (.getfield 168, 3) := by decide +kernel
theorem dX10_aWalk_4 : decode cX10_aWalk 4 = .ok (.bipush 8, 2) := by decide +kernel
theorem dX10_aWalk_6 : decode cX10_aWalk 6 = .ok (.if_icmp .eq 9, 3) := by decide +kernel
theorem dX10_aWalk_9 : decode cX10_aWalk 9 = .ok (.aload_n 0, 1) := by decide +kernel
theorem dX10_aWalk_10 : decode cX10_aWalk 10 = .ok (.iconst 1, 1) := by decide +kernel
theorem dX10_aWalk_11 : decode cX10_aWalk 11 = .ok (.invokevirtual 189, 3) := by decide +kernel
theorem dX10_aWalk_14 : decode cX10_aWalk 14 = .ok (.ireturn, 1) := by decide +kernel
theorem dX10_aWalk_15 : decode cX10_aWalk 15 = .ok (.aload_n 0, 1) := by decide +kernel
theorem dX10_aWalk_16 : decode cX10_aWalk 16 = .ok (.getfield 242, 3) := by decide +kernel
theorem dX10_aWalk_19 : decode cX10_aWalk 19 = .ok (.bipush 16, 2) := by decide +kernel
theorem dX10_aWalk_21 : decode cX10_aWalk 21 = .ok (.if_icmp .ne 9, 3) := by decide +kernel
theorem dX10_aWalk_24 : decode cX10_aWalk 24 = .ok (.aload_n 0, 1) := by decide +kernel
theorem dX10_aWalk_25 : decode cX10_aWalk 25 = .ok (.iconst 3, 1) := by decide +kernel
theorem dX10_aWalk_26 : decode cX10_aWalk 26 = .ok (.invokevirtual 189, 3) := by decide +kernel
theorem dX10_aWalk_29 : decode cX10_aWalk 29 = .ok (.ireturn, 1) := by decide +kernel
theorem dX10_aWalk_30 : decode cX10_aWalk 30 = .ok (.aload_n 0, 1) := by decide +kernel
theorem dX10_aWalk_31 : decode cX10_aWalk 31 = .ok (.invokevirtual 192, 3) := by decide +kernel
theorem dX10_aWalk_34 : decode cX10_aWalk 34 = .ok (.iconst 4, 1) := by decide +kernel
theorem dX10_aWalk_35 : decode cX10_aWalk 35 = .ok (.aload_n 0, 1) := by decide +kernel
theorem dX10_aWalk_36 : decode cX10_aWalk 36 = .ok (.getfield 242, 3) := by decide +kernel
theorem dX10_aWalk_39 : decode cX10_aWalk 39 = .ok (.imul, 1) := by decide +kernel
theorem dX10_aWalk_40 : decode cX10_aWalk 40 = .ok (.istore_n 1, 1) := by decide +kernel
theorem dX10_aWalk_41 : decode cX10_aWalk 41 = .ok (.aload_n 0, 1) := by decide +kernel
theorem dX10_aWalk_42 : decode cX10_aWalk 42 = .ok (.iload_n 1, 1) := by decide +kernel
theorem dX10_aWalk_43 : decode cX10_aWalk 43 = .ok (.iconst 0, 1) := by decide +kernel
theorem dX10_aWalk_44 : decode cX10_aWalk 44 = .ok (.sipush 999, 3) := by decide +kernel
theorem dX10_aWalk_47 : decode cX10_aWalk 47 = .ok (.invokevirtual 248, 3) := by decide +kernel
theorem dX10_aWalk_50 : decode cX10_aWalk 50 = .ok (.ifCond .eq 23, 3) := by decide +kernel
theorem dX10_aWalk_53 : decode cX10_aWalk 53 = .ok (.aload_n 0, 1) := by decide +kernel
theorem dX10_aWalk_54 : decode cX10_aWalk 54 = .ok (.iload_n 1, 1) := by decide +kernel
theorem dX10_aWalk_55 : decode cX10_aWalk 55 = .ok (.iconst 1, 1) := by decide +kernel
theorem dX10_aWalk_56 : decode cX10_aWalk 56 = .ok (.iadd, 1) := by decide +kernel
theorem dX10_aWalk_57 : decode cX10_aWalk 57 = .ok (.iconst 0, 1) := by decide +kernel
theorem dX10_aWalk_58 : decode cX10_aWalk 58 = .ok (.aload_n 0, 1) := by decide +kernel
theorem dX10_aWalk_59 : decode cX10_aWalk 59 = .ok (.getfield 7, 3) := by decide +kernel
theorem dX10_aWalk_62 : decode cX10_aWalk 62 = .ok (.bipush 63, 2) := by decide +kernel
theorem dX10_aWalk_64 : decode cX10_aWalk 64 = .ok (.iaload, 1) := by decide +kernel
theorem dX10_aWalk_65 : decode cX10_aWalk 65 = .ok (.iconst 1, 1) := by decide +kernel
theorem dX10_aWalk_66 : decode cX10_aWalk 66 = .ok (.isub, 1) := by decide +kernel
theorem dX10_aWalk_67 : decode cX10_aWalk 67 = .ok (.invokevirtual 248, 3) := by decide +kernel
theorem dX10_aWalk_70 : decode cX10_aWalk 70 = .ok (.ifCond .ne 5, 3) := by decide +kernel
theorem dX10_aWalk_73 : decode cX10_aWalk 73 = .ok (.iconst 0, 1) := by decide +kernel
theorem dX10_aWalk_74 : decode cX10_aWalk 74 = .ok (.ireturn, 1) := by decide +kernel
theorem dX10_aWalk_75 : decode cX10_aWalk 75 = .ok (.aload_n 0, 1) := by decide +kernel
theorem dX10_aWalk_76 : decode cX10_aWalk 76 = .ok (.getfield 168, 3) := by decide +kernel
theorem dX10_aWalk_79 : decode cX10_aWalk 79 = .ok (.bipush 9, 2) := by decide +kernel
theorem dX10_aWalk_81 : decode cX10_aWalk 81 = .ok (.bipush 11, 2) := by decide +kernel
theorem dX10_aWalk_83 : decode cX10_aWalk 83 = .ok (.invokestatic 59, 3) := by decide +kernel
theorem dX10_aWalk_86 : decode cX10_aWalk 86 = .ok (.ifCond .ne 9, 3) := by decide +kernel
theorem dX10_aWalk_89 : decode cX10_aWalk 89 = .ok (.aload_n 0, 1) := by decide +kernel
theorem dX10_aWalk_90 : decode cX10_aWalk 90 = .ok (.iconst 1, 1) := by decide +kernel
theorem dX10_aWalk_91 : decode cX10_aWalk 91 = .ok (.invokevirtual 189, 3) := by decide +kernel
theorem dX10_aWalk_94 : decode cX10_aWalk 94 = .ok (.ireturn, 1) := by decide +kernel
theorem dX10_aWalk_95 : decode cX10_aWalk 95 = .ok (.aload_n 0, 1) := by decide +kernel
theorem dX10_aWalk_96 : decode cX10_aWalk 96 = .ok (.getfield 34, 3) := by decide +kernel
theorem dX10_aWalk_99 : decode cX10_aWalk 99 = .ok (.iload_n 1, 1) := by decide +kernel
theorem dX10_aWalk_100 : decode cX10_aWalk 100 = .ok (.iconst 2, 1) := by decide +kernel
theorem dX10_aWalk_101 : decode cX10_aWalk 101 = .ok (.iadd, 1) := by decide +kernel
theorem dX10_aWalk_102 : decode cX10_aWalk 102 = .ok (.aload_n 0, 1) := by decide +kernel
theorem dX10_aWalk_103 : decode cX10_aWalk 103 = .ok (.getfield 168, 3) := by decide +kernel
theorem dX10_aWalk_106 : decode cX10_aWalk 106 = .ok (.iastore, 1) := by decide +kernel
theorem dX10_aWalk_107 : decode cX10_aWalk 107 = .ok (.aload_n 0, 1) := by decide +kernel
theorem dX10_aWalk_108 : decode cX10_aWalk 108 = .ok (.invokevirtual 192, 3) := by decide +kernel
theorem dX10_aWalk_111 : decode cX10_aWalk 111 = .ok (.aload_n 0, 1) := by decide +kernel
theorem dX10_aWalk_112 : decode cX10_aWalk 112 = .ok (.getfield 34, 3) := by decide +kernel
theorem dX10_aWalk_115 : decode cX10_aWalk 115 = .ok (.iload_n 1, 1) := by decide +kernel
theorem dX10_aWalk_116 : decode cX10_aWalk 116 = .ok (.iconst 3, 1) := by decide +kernel
theorem dX10_aWalk_117 : decode cX10_aWalk 117 = .ok (.iadd, 1) := by decide +kernel
theorem dX10_aWalk_118 : decode cX10_aWalk 118 = .ok (.iconst 0, 1) := by decide +kernel
theorem dX10_aWalk_119 : decode cX10_aWalk 119 = .ok (.iastore, 1) := by decide +kernel
theorem dX10_aWalk_120 : decode cX10_aWalk 120 = .ok (.aload_n 0, 1) := by decide +kernel
theorem dX10_aWalk_121 : decode cX10_aWalk 121 = .ok (.getfield 34, 3) := by decide +kernel
theorem dX10_aWalk_124 : decode cX10_aWalk 124 = .ok (.iload_n 1, 1) := by decide +kernel
theorem dX10_aWalk_125 : decode cX10_aWalk 125 = .ok (.iconst 2, 1) := by decide +kernel
theorem dX10_aWalk_126 : decode cX10_aWalk 126 = .ok (.iadd, 1) := by decide +kernel
theorem dX10_aWalk_127 : decode cX10_aWalk 127 = .ok (.iaload, 1) := by decide +kernel
theorem dX10_aWalk_128 : decode cX10_aWalk 128 = .ok (.bipush 9, 2) := by decide +kernel
theorem dX10_aWalk_130 : decode cX10_aWalk 130 = .ok (.if_icmp .ne 18, 3) := by decide +kernel
theorem dX10_aWalk_133 : decode cX10_aWalk 133 = .ok (.aload_n 0, 1) := by decide +kernel
theorem dX10_aWalk_134 : decode cX10_aWalk 134 = .ok (.iload_n 1, 1) := by decide +kernel
theorem dX10_aWalk_135 : decode cX10_aWalk 135 = .ok (.iconst 3, 1) := by decide +kernel
theorem dX10_aWalk_136 : decode cX10_aWalk 136 = .ok (.iadd, 1) := by decide +kernel
theorem dX10_aWalk_137 : decode cX10_aWalk 137 = .ok (.iconst 0, 1) := by decide +kernel
theorem dX10_aWalk_138 : decode cX10_aWalk 138 = .ok (.bipush 9, 2) := by decide +kernel
theorem dX10_aWalk_140 : decode cX10_aWalk 140 = .ok (.invokevirtual 248, 3) := by decide +kernel
theorem dX10_aWalk_143 : decode cX10_aWalk 143 = .ok (.ifCond .ne 5, 3) := by decide +kernel
theorem dX10_aWalk_146 : decode cX10_aWalk 146 = .ok (.iconst 0, 1) := by decide +kernel
theorem dX10_aWalk_147 : decode cX10_aWalk 147 = .ok (.ireturn, 1) := by decide +kernel
theorem dX10_aWalk_148 : decode cX10_aWalk 148 = .ok (.aload_n 0, 1) := by decide +kernel
theorem dX10_aWalk_149 : decode cX10_aWalk 149 = .ok (.getfield 34, 3) := by decide +kernel
theorem dX10_aWalk_152 : decode cX10_aWalk 152 = .ok (.iload_n 1, 1) := by decide +kernel
theorem dX10_aWalk_153 : decode cX10_aWalk 153 = .ok (.iconst 2, 1) := by decide +kernel
theorem dX10_aWalk_154 : decode cX10_aWalk 154 = .ok (.iadd, 1) := by decide +kernel
theorem dX10_aWalk_155 : decode cX10_aWalk 155 = .ok (.iaload, 1) := by decide +kernel
theorem dX10_aWalk_156 : decode cX10_aWalk 156 = .ok (.bipush 10, 2) := by decide +kernel
theorem dX10_aWalk_158 : decode cX10_aWalk 158 = .ok (.if_icmp .ne 25, 3) := by decide +kernel
theorem dX10_aWalk_161 : decode cX10_aWalk 161 = .ok (.aload_n 0, 1) := by decide +kernel
theorem dX10_aWalk_162 : decode cX10_aWalk 162 = .ok (.iload_n 1, 1) := by decide +kernel
theorem dX10_aWalk_163 : decode cX10_aWalk 163 = .ok (.iconst 3, 1) := by decide +kernel
theorem dX10_aWalk_164 : decode cX10_aWalk 164 = .ok (.iadd, 1) := by decide +kernel
theorem dX10_aWalk_165 : decode cX10_aWalk 165 = .ok (.iconst 0, 1) := by decide +kernel
theorem dX10_aWalk_166 : decode cX10_aWalk 166 = .ok (.aload_n 0, 1) := by decide +kernel
theorem dX10_aWalk_167 : decode cX10_aWalk 167 = .ok (.getfield 7, 3) := by decide +kernel
theorem dX10_aWalk_170 : decode cX10_aWalk 170 = .ok (.bipush 62, 2) := by decide +kernel
theorem dX10_aWalk_172 : decode cX10_aWalk 172 = .ok (.iaload, 1) := by decide +kernel
theorem dX10_aWalk_173 : decode cX10_aWalk 173 = .ok (.iconst 1, 1) := by decide +kernel
theorem dX10_aWalk_174 : decode cX10_aWalk 174 = .ok (.isub, 1) := by decide +kernel
theorem dX10_aWalk_175 : decode cX10_aWalk 175 = .ok (.invokevirtual 248, 3) := by decide +kernel
theorem dX10_aWalk_178 : decode cX10_aWalk 178 = .ok (.ifCond .ne 5, 3) := by decide +kernel
theorem dX10_aWalk_181 : decode cX10_aWalk 181 = .ok (.iconst 0, 1) := by decide +kernel
theorem dX10_aWalk_182 : decode cX10_aWalk 182 = .ok (.ireturn, 1) := by decide +kernel
theorem dX10_aWalk_183 : decode cX10_aWalk 183 = .ok (.aload_n 0, 1) := by decide +kernel
theorem dX10_aWalk_184 : decode cX10_aWalk 184 = .ok (.dup, 1) := by decide +kernel
theorem dX10_aWalk_185 : decode cX10_aWalk 185 = .ok (.getfield 242, 3) := by decide +kernel
theorem dX10_aWalk_188 : decode cX10_aWalk 188 = .ok (.iconst 1, 1) := by decide +kernel
theorem dX10_aWalk_189 : decode cX10_aWalk 189 = .ok (.iadd, 1) := by decide +kernel
theorem dX10_aWalk_190 : decode cX10_aWalk 190 = .ok (.putfield 242, 3) := by decide +kernel
theorem dX10_aWalk_193 : decode cX10_aWalk 193 = .ok (.aload_n 0, 1) := by decide +kernel
theorem dX10_aWalk_194 : decode cX10_aWalk 194 = .ok (.sipush 159, 3) := by decide +kernel
theorem dX10_aWalk_197 : decode cX10_aWalk 197 = .ok (.invokevirtual 224, 3) := by decide +kernel
theorem dX10_aWalk_200 : decode cX10_aWalk 200 = .ok (.ireturn, 1) := by decide +kernel
theorem dX10_aNeed_0 : decode cX10_aNeed 0 = .ok (.aload_n 0, 1) := by decide +kernel
theorem dX10_aNeed_1 : decode cX10_aNeed 1 = .ok (.getfield 168, 3) := by decide +kernel
theorem dX10_aNeed_4 : decode cX10_aNeed 4 = .ok (.bipush 12, 2) := by decide +kernel
theorem dX10_aNeed_6 : decode cX10_aNeed 6 = .ok (.if_icmp .eq 9, 3) := by decide +kernel
theorem dX10_aNeed_9 : decode cX10_aNeed 9 = .ok (.aload_n 0, 1) := by decide +kernel
theorem dX10_aNeed_10 : decode cX10_aNeed 10 = .ok (.iconst 1, 1) := by decide +kernel
theorem dX10_aNeed_11 : decode cX10_aNeed 11 = .ok (.invokevirtual 189, 3) := by decide +kernel
theorem dX10_aNeed_14 : decode cX10_aNeed 14 = .ok (.ireturn, 1) := by decide +kernel
theorem dX10_aNeed_15 : decode cX10_aNeed 15 = .ok (.aload_n 0, 1) := by decide +kernel
theorem dX10_aNeed_16 : decode cX10_aNeed 16 = .ok (.getfield 242, 3) := by decide +kernel
theorem dX10_aNeed_19 : decode cX10_aNeed 19 = .ok (.bipush 12, 2) := by decide +kernel
theorem dX10_aNeed_21 : decode cX10_aNeed 21 = .ok (.if_icmp .ne 9, 3) := by decide +kernel
theorem dX10_aNeed_24 : decode cX10_aNeed 24 = .ok (.aload_n 0, 1) := by decide +kernel
theorem dX10_aNeed_25 : decode cX10_aNeed 25 = .ok (.iconst 3, 1) := by decide +kernel
theorem dX10_aNeed_26 : decode cX10_aNeed 26 = .ok (.invokevirtual 189, 3) := by decide +kernel
theorem dX10_aNeed_29 : decode cX10_aNeed 29 = .ok (.ireturn, 1) := by decide +kernel
theorem dX10_aNeed_30 : decode cX10_aNeed 30 = .ok (.aload_n 0, 1) := by decide +kernel
theorem dX10_aNeed_31 : decode cX10_aNeed 31 = .ok (.invokevirtual 192, 3) := by decide +kernel
theorem dX10_aNeed_34 : decode cX10_aNeed 34 = .ok (.iconst 3, 1) := by decide +kernel
theorem dX10_aNeed_35 : decode cX10_aNeed 35 = .ok (.aload_n 0, 1) := by decide +kernel
theorem dX10_aNeed_36 : decode cX10_aNeed 36 = .ok (.getfield 242, 3) := by decide +kernel
theorem dX10_aNeed_39 : decode cX10_aNeed 39 = .ok (.imul, 1) := by decide +kernel
theorem dX10_aNeed_40 : decode cX10_aNeed 40 = .ok (.istore_n 1, 1) := by decide +kernel
theorem dX10_aNeed_41 : decode cX10_aNeed 41 = .ok (.aload_n 0, 1) := by decide +kernel
theorem dX10_aNeed_42 : decode cX10_aNeed 42 = .ok (.iload_n 1, 1) := by decide +kernel
theorem dX10_aNeed_43 : decode cX10_aNeed 43 = .ok (.iconst 0, 1) := by decide +kernel
theorem dX10_aNeed_44 : decode cX10_aNeed 44 = .ok (.aload_n 0, 1) := by decide +kernel
theorem dX10_aNeed_45 : decode cX10_aNeed 45 = .ok (.getfield 7, 3) := by decide +kernel
theorem dX10_aNeed_48 : decode cX10_aNeed 48 = .ok (.bipush 66, 2) := by decide +kernel
theorem dX10_aNeed_50 : decode cX10_aNeed 50 = .ok (.iaload, 1) := by decide +kernel
theorem dX10_aNeed_51 : decode cX10_aNeed 51 = .ok (.iconst 1, 1) := by decide +kernel
theorem dX10_aNeed_52 : decode cX10_aNeed 52 = .ok (.isub, 1) := by decide +kernel
theorem dX10_aNeed_53 : decode cX10_aNeed 53 = .ok (.invokevirtual 248, 3) := by decide +kernel
theorem dX10_aNeed_56 : decode cX10_aNeed 56 = .ok (.ifCond .eq 48, 3) := by decide +kernel
theorem dX10_aNeed_59 : decode cX10_aNeed 59 = .ok (.aload_n 0, 1) := by decide +kernel
theorem dX10_aNeed_60 : decode cX10_aNeed 60 = .ok (.bipush 13, 2) := by decide +kernel
theorem dX10_aNeed_62 : decode cX10_aNeed 62 = .ok (.invokevirtual 224, 3) := by decide +kernel
theorem dX10_aNeed_65 : decode cX10_aNeed 65 = .ok (.ifCond .eq 39, 3) := by decide +kernel
theorem dX10_aNeed_68 : decode cX10_aNeed 68 = .ok (.aload_n 0, 1) := by decide +kernel
theorem dX10_aNeed_69 : decode cX10_aNeed 69 = .ok (.iload_n 1, 1) := by decide +kernel
theorem dX10_aNeed_70 : decode cX10_aNeed 70 = .ok (.iconst 1, 1) := by decide +kernel
theorem dX10_aNeed_71 : decode cX10_aNeed 71 = .ok (.iadd, 1) := by decide +kernel
theorem dX10_aNeed_72 : decode cX10_aNeed 72 = .ok (.iconst 0, 1) := by decide +kernel
theorem dX10_aNeed_73 : decode cX10_aNeed 73 = .ok (.sipush 999, 3) := by decide +kernel
theorem dX10_aNeed_76 : decode cX10_aNeed 76 = .ok (.invokevirtual 248, 3) := by decide +kernel
theorem dX10_aNeed_79 : decode cX10_aNeed 79 = .ok (.ifCond .eq 25, 3) := by decide +kernel
theorem dX10_aNeed_82 : decode cX10_aNeed 82 = .ok (.aload_n 0, 1) := by decide +kernel
theorem dX10_aNeed_83 : decode cX10_aNeed 83 = .ok (.bipush 14, 2) := by decide +kernel
theorem dX10_aNeed_85 : decode cX10_aNeed 85 = .ok (.invokevirtual 224, 3) := by decide +kernel
theorem dX10_aNeed_88 : decode cX10_aNeed 88 = .ok (.ifCond .eq 16, 3) := by decide +kernel
theorem dX10_aNeed_91 : decode cX10_aNeed 91 = .ok (.aload_n 0, 1) := by decide +kernel
theorem dX10_aNeed_92 : decode cX10_aNeed 92 = .ok (.iload_n 1, 1) := by decide +kernel
theorem dX10_aNeed_93 : decode cX10_aNeed 93 = .ok (.iconst 2, 1) := by decide +kernel
theorem dX10_aNeed_94 : decode cX10_aNeed 94 = .ok (.iadd, 1) := by decide +kernel
theorem dX10_aNeed_95 : decode cX10_aNeed 95 = .ok (.iconst 1, 1) := by decide +kernel
theorem dX10_aNeed_96 : decode cX10_aNeed 96 = .ok (.bipush 99, 2) := by decide +kernel
theorem dX10_aNeed_98 : decode cX10_aNeed 98 = .ok (.invokevirtual 248, 3) := by decide +kernel
theorem dX10_aNeed_101 : decode cX10_aNeed 101 = .ok (.ifCond .ne 5, 3) := by decide +kernel
theorem dX10_aNeed_104 : decode cX10_aNeed 104 = .ok (.iconst 0, 1) := by decide +kernel
theorem dX10_aNeed_105 : decode cX10_aNeed 105 = .ok (.ireturn, 1) := by decide +kernel
theorem dX10_aNeed_106 : decode cX10_aNeed 106 = .ok (.aload_n 0, 1) := by decide +kernel
theorem dX10_aNeed_107 : decode cX10_aNeed 107 = .ok (.dup, 1) := by decide +kernel
theorem dX10_aNeed_108 : decode cX10_aNeed 108 = .ok (.getfield 242, 3) := by decide +kernel
theorem dX10_aNeed_111 : decode cX10_aNeed 111 = .ok (.iconst 1, 1) := by decide +kernel
theorem dX10_aNeed_112 : decode cX10_aNeed 112 = .ok (.iadd, 1) := by decide +kernel
theorem dX10_aNeed_113 : decode cX10_aNeed 113 = .ok (.putfield 242, 3) := by decide +kernel
theorem dX10_aNeed_116 : decode cX10_aNeed 116 = .ok (.aload_n 0, 1) := by decide +kernel
theorem dX10_aNeed_117 : decode cX10_aNeed 117 = .ok (.sipush 159, 3) := by decide +kernel
theorem dX10_aNeed_120 : decode cX10_aNeed 120 = .ok (.invokevirtual 224, 3) := by decide +kernel
theorem dX10_aNeed_123 : decode cX10_aNeed 123 = .ok (.ireturn, 1) := by decide +kernel
theorem dX10_readsRows_0 : decode cX10_readsRows 0 = .ok (.aload_n 0, 1) := by decide +kernel
theorem dX10_readsRows_1 : decode cX10_readsRows 1 = .ok (.iconst 0, 1) := by decide +kernel
theorem dX10_readsRows_2 : decode cX10_readsRows 2 = .ok (.putfield 242, 3) := by decide +kernel
theorem dX10_readsRows_5 : decode cX10_readsRows 5 = .ok (.iconst 1, 1) := by decide +kernel
theorem dX10_readsRows_6 : decode cX10_readsRows 6 = .ok (.istore_n 1, 1) := by decide +kernel
theorem dX10_readsRows_7 : decode cX10_readsRows 7 = .ok (.iload_n 1, 1) := by decide +kernel
theorem dX10_readsRows_8 : decode cX10_readsRows 8 = .ok (.ifCond .eq 47, 3) := by decide +kernel
theorem dX10_readsRows_11 : decode cX10_readsRows 11 = .ok (.aload_n 0, 1) := by decide +kernel
theorem dX10_readsRows_12 : decode cX10_readsRows 12 = .ok (.getfield 168, 3) := by decide +kernel
theorem dX10_readsRows_15 : decode cX10_readsRows 15 = .ok (.ifCond .eq 40, 3) := by decide +kernel
theorem dX10_readsRows_18 : decode cX10_readsRows 18 = .ok (.aload_n 0, 1) := by decide +kernel
theorem dX10_readsRows_19 : decode cX10_readsRows 19 = .ok (.getfield 150, 3) := by decide +kernel
theorem dX10_readsRows_22 : decode cX10_readsRows 22 = .ok (.ifCond .ne 10, 3) := by decide +kernel
theorem dX10_readsRows_25 : decode cX10_readsRows 25 = .ok (.aload_n 0, 1) := by decide +kernel
theorem dX10_readsRows_26 : decode cX10_readsRows 26 = .ok (.invokevirtual 251, 3) := by decide +kernel
theorem dX10_readsRows_29 : decode cX10_readsRows 29 = .ok (.goto 22, 3) := by decide +kernel
theorem dX10_readsRows_32 : decode cX10_readsRows 32 = .ok (.aload_n 0, 1) := by decide +kernel
theorem dX10_readsRows_33 : decode cX10_readsRows 33 = .ok (.getfield 150, 3) := by decide +kernel
theorem dX10_readsRows_36 : decode cX10_readsRows 36 = .ok (.iconst 2, 1) := by decide +kernel
theorem dX10_readsRows_37 : decode cX10_readsRows 37 = .ok (.if_icmp .ne 10, 3) := by decide +kernel
theorem dX10_readsRows_40 : decode cX10_readsRows 40 = .ok (.aload_n 0, 1) := by decide +kernel
theorem dX10_readsRows_41 : decode cX10_readsRows 41 = .ok (.invokevirtual 254, 3) := by decide +kernel
theorem dX10_readsRows_44 : decode cX10_readsRows 44 = .ok (.goto 7, 3) := by decide +kernel
theorem dX10_readsRows_47 : decode cX10_readsRows 47 = .ok (.aload_n 0, 1) := by decide +kernel
theorem dX10_readsRows_48 : decode cX10_readsRows 48 = .ok (.invokevirtual 257, 3) := by decide +kernel
theorem dX10_readsRows_51 : decode cX10_readsRows 51 = .ok (.istore_n 1, 1) := by decide +kernel
theorem dX10_readsRows_52 : decode cX10_readsRows 52 = .ok (.goto (-45), 3) := by decide +kernel
theorem dX10_readsRows_55 : decode cX10_readsRows 55 = .ok (.iload_n 1, 1) := by decide +kernel
theorem dX10_readsRows_56 : decode cX10_readsRows 56 = .ok (.ireturn, 1) := by decide +kernel
theorem dX10_putsLaw_0 : decode cX10_putsLaw 0 = .ok (.aload_n 0, 1) := by decide +kernel
theorem dX10_putsLaw_1 : decode cX10_putsLaw 1 = .ok (.getfield 7, 3) := by decide +kernel
theorem dX10_putsLaw_4 : decode cX10_putsLaw 4 = .ok (.bipush 65, 2) := by decide +kernel
theorem dX10_putsLaw_6 : decode cX10_putsLaw 6 = .ok (.aload_n 0, 1) := by decide +kernel
theorem dX10_putsLaw_7 : decode cX10_putsLaw 7 = .ok (.getfield 229, 3) := by decide +kernel
theorem dX10_putsLaw_10 : decode cX10_putsLaw 10 = .ok (.iastore, 1) := by decide +kernel
theorem dX10_putsLaw_11 : decode cX10_putsLaw 11 = .ok (.iconst 0, 1) := by decide +kernel
theorem dX10_putsLaw_12 : decode cX10_putsLaw 12 = .ok (.istore_n 1, 1) := by decide +kernel
theorem dX10_putsLaw_13 : decode cX10_putsLaw 13 = .ok (.iload_n 1, 1) := by decide +kernel
theorem dX10_putsLaw_14 : decode cX10_putsLaw 14 = .ok (.aload_n 0, 1) := by decide +kernel
theorem dX10_putsLaw_15 : decode cX10_putsLaw 15 = .ok (.getfield 229, 3) := by decide +kernel
theorem dX10_putsLaw_18 : decode cX10_putsLaw 18 = .ok (.if_icmp .ge 87, 3) := by decide +kernel
theorem dX10_putsLaw_21 : decode cX10_putsLaw 21 = .ok (.aload_n 0, 1) := by decide +kernel
theorem dX10_putsLaw_22 : decode cX10_putsLaw 22 = .ok (.getfield 7, 3) := by decide +kernel
theorem dX10_putsLaw_25 : decode cX10_putsLaw 25 = .ok (.sipush 1348, 3) := by decide +kernel
theorem dX10_putsLaw_28 : decode cX10_putsLaw 28 = .ok (.iload_n 1, 1) := by decide +kernel
theorem dX10_putsLaw_29 : decode cX10_putsLaw 29 = .ok (.iadd, 1) := by decide +kernel
theorem dX10_putsLaw_30 : decode cX10_putsLaw 30 = .ok (.aload_n 0, 1) := by decide +kernel
theorem dX10_putsLaw_31 : decode cX10_putsLaw 31 = .ok (.getfield 22, 3) := by decide +kernel
theorem dX10_putsLaw_34 : decode cX10_putsLaw 34 = .ok (.iconst 4, 1) := by decide +kernel
theorem dX10_putsLaw_35 : decode cX10_putsLaw 35 = .ok (.iload_n 1, 1) := by decide +kernel
theorem dX10_putsLaw_36 : decode cX10_putsLaw 36 = .ok (.imul, 1) := by decide +kernel
theorem dX10_putsLaw_37 : decode cX10_putsLaw 37 = .ok (.iaload, 1) := by decide +kernel
theorem dX10_putsLaw_38 : decode cX10_putsLaw 38 = .ok (.iastore, 1) := by decide +kernel
theorem dX10_putsLaw_39 : decode cX10_putsLaw 39 = .ok (.aload_n 0, 1) := by decide +kernel
theorem dX10_putsLaw_40 : decode cX10_putsLaw 40 = .ok (.getfield 7, 3) := by decide +kernel
theorem dX10_putsLaw_43 : decode cX10_putsLaw 43 = .ok (.sipush 1364, 3) := by decide +kernel
theorem dX10_putsLaw_46 : decode cX10_putsLaw 46 = .ok (.iload_n 1, 1) := by decide +kernel
theorem dX10_putsLaw_47 : decode cX10_putsLaw 47 = .ok (.iadd, 1) := by decide +kernel
theorem dX10_putsLaw_48 : decode cX10_putsLaw 48 = .ok (.aload_n 0, 1) := by decide +kernel
theorem dX10_putsLaw_49 : decode cX10_putsLaw 49 = .ok (.getfield 22, 3) := by decide +kernel
theorem dX10_putsLaw_52 : decode cX10_putsLaw 52 = .ok (.iconst 4, 1) := by decide +kernel
theorem dX10_putsLaw_53 : decode cX10_putsLaw 53 = .ok (.iload_n 1, 1) := by decide +kernel
theorem dX10_putsLaw_54 : decode cX10_putsLaw 54 = .ok (.imul, 1) := by decide +kernel
theorem dX10_putsLaw_55 : decode cX10_putsLaw 55 = .ok (.iconst 1, 1) := by decide +kernel
theorem dX10_putsLaw_56 : decode cX10_putsLaw 56 = .ok (.iadd, 1) := by decide +kernel
theorem dX10_putsLaw_57 : decode cX10_putsLaw 57 = .ok (.iaload, 1) := by decide +kernel
theorem dX10_putsLaw_58 : decode cX10_putsLaw 58 = .ok (.iastore, 1) := by decide +kernel
theorem dX10_putsLaw_59 : decode cX10_putsLaw 59 = .ok (.aload_n 0, 1) := by decide +kernel
theorem dX10_putsLaw_60 : decode cX10_putsLaw 60 = .ok (.getfield 7, 3) := by decide +kernel
theorem dX10_putsLaw_63 : decode cX10_putsLaw 63 = .ok (.sipush 1380, 3) := by decide +kernel
theorem dX10_putsLaw_66 : decode cX10_putsLaw 66 = .ok (.iload_n 1, 1) := by decide +kernel
theorem dX10_putsLaw_67 : decode cX10_putsLaw 67 = .ok (.iadd, 1) := by decide +kernel
theorem dX10_putsLaw_68 : decode cX10_putsLaw 68 = .ok (.aload_n 0, 1) := by decide +kernel
theorem dX10_putsLaw_69 : decode cX10_putsLaw 69 = .ok (.getfield 22, 3) := by decide +kernel
theorem dX10_putsLaw_72 : decode cX10_putsLaw 72 = .ok (.iconst 4, 1) := by decide +kernel
theorem dX10_putsLaw_73 : decode cX10_putsLaw 73 = .ok (.iload_n 1, 1) := by decide +kernel
theorem dX10_putsLaw_74 : decode cX10_putsLaw 74 = .ok (.imul, 1) := by decide +kernel
theorem dX10_putsLaw_75 : decode cX10_putsLaw 75 = .ok (.iconst 2, 1) := by decide +kernel
theorem dX10_putsLaw_76 : decode cX10_putsLaw 76 = .ok (.iadd, 1) := by decide +kernel
theorem dX10_putsLaw_77 : decode cX10_putsLaw 77 = .ok (.iaload, 1) := by decide +kernel
theorem dX10_putsLaw_78 : decode cX10_putsLaw 78 = .ok (.iastore, 1) := by decide +kernel
theorem dX10_putsLaw_79 : decode cX10_putsLaw 79 = .ok (.aload_n 0, 1) := by decide +kernel
theorem dX10_putsLaw_80 : decode cX10_putsLaw 80 = .ok (.getfield 7, 3) := by decide +kernel
theorem dX10_putsLaw_83 : decode cX10_putsLaw 83 = .ok (.sipush 1396, 3) := by decide +kernel
theorem dX10_putsLaw_86 : decode cX10_putsLaw 86 = .ok (.iload_n 1, 1) := by decide +kernel
theorem dX10_putsLaw_87 : decode cX10_putsLaw 87 = .ok (.iadd, 1) := by decide +kernel
theorem dX10_putsLaw_88 : decode cX10_putsLaw 88 = .ok (.aload_n 0, 1) := by decide +kernel
theorem dX10_putsLaw_89 : decode cX10_putsLaw 89 = .ok (.getfield 22, 3) := by decide +kernel
theorem dX10_putsLaw_92 : decode cX10_putsLaw 92 = .ok (.iconst 4, 1) := by decide +kernel
theorem dX10_putsLaw_93 : decode cX10_putsLaw 93 = .ok (.iload_n 1, 1) := by decide +kernel
theorem dX10_putsLaw_94 : decode cX10_putsLaw 94 = .ok (.imul, 1) := by decide +kernel
theorem dX10_putsLaw_95 : decode cX10_putsLaw 95 = .ok (.iconst 3, 1) := by decide +kernel
theorem dX10_putsLaw_96 : decode cX10_putsLaw 96 = .ok (.iadd, 1) := by decide +kernel
theorem dX10_putsLaw_97 : decode cX10_putsLaw 97 = .ok (.iaload, 1) := by decide +kernel
theorem dX10_putsLaw_98 : decode cX10_putsLaw 98 = .ok (.iastore, 1) := by decide +kernel
theorem dX10_putsLaw_99 : decode cX10_putsLaw 99 = .ok (.iinc 1 1, 3) := by decide +kernel
theorem dX10_putsLaw_102 : decode cX10_putsLaw 102 = .ok (.goto (-89), 3) := by decide +kernel
theorem dX10_putsLaw_105 : decode cX10_putsLaw 105 = .ok (.iconst 0, 1) := by decide +kernel
theorem dX10_putsLaw_106 : decode cX10_putsLaw 106 = .ok (.istore_n 1, 1) := by decide +kernel
theorem dX10_putsLaw_107 : decode cX10_putsLaw 107 = .ok (.iload_n 1, 1) := by decide +kernel
theorem dX10_putsLaw_108 : decode cX10_putsLaw 108 = .ok (.iconst 2, 1) := by decide +kernel
theorem dX10_putsLaw_109 : decode cX10_putsLaw 109 = .ok (.aload_n 0, 1) := by decide +kernel
theorem dX10_putsLaw_110 : decode cX10_putsLaw 110 = .ok (.getfield 195, 3) := by decide +kernel
theorem dX10_putsLaw_113 : decode cX10_putsLaw 113 = .ok (.imul, 1) := by decide +kernel
theorem dX10_putsLaw_114 : decode cX10_putsLaw 114 = .ok (.if_icmp .ge 25, 3) := by decide +kernel
theorem dX10_putsLaw_117 : decode cX10_putsLaw 117 = .ok (.aload_n 0, 1) := by decide +kernel
theorem dX10_putsLaw_118 : decode cX10_putsLaw 118 = .ok (.getfield 7, 3) := by decide +kernel
theorem dX10_putsLaw_121 : decode cX10_putsLaw 121 = .ok (.sipush 1412, 3) := by decide +kernel
theorem dX10_putsLaw_124 : decode cX10_putsLaw 124 = .ok (.iload_n 1, 1) := by decide +kernel
theorem dX10_putsLaw_125 : decode cX10_putsLaw 125 = .ok (.iadd, 1) := by decide +kernel
theorem dX10_putsLaw_126 : decode cX10_putsLaw 126 = .ok (.aload_n 0, 1) := by decide +kernel
theorem dX10_putsLaw_127 : decode cX10_putsLaw 127 = .ok (.getfield 25, 3) := by decide +kernel
theorem dX10_putsLaw_130 : decode cX10_putsLaw 130 = .ok (.iload_n 1, 1) := by decide +kernel
theorem dX10_putsLaw_131 : decode cX10_putsLaw 131 = .ok (.iaload, 1) := by decide +kernel
theorem dX10_putsLaw_132 : decode cX10_putsLaw 132 = .ok (.iastore, 1) := by decide +kernel
theorem dX10_putsLaw_133 : decode cX10_putsLaw 133 = .ok (.iinc 1 1, 3) := by decide +kernel
theorem dX10_putsLaw_136 : decode cX10_putsLaw 136 = .ok (.goto (-29), 3) := by decide +kernel
theorem dX10_putsLaw_139 : decode cX10_putsLaw 139 = .ok (.aload_n 0, 1) := by decide +kernel
theorem dX10_putsLaw_140 : decode cX10_putsLaw 140 = .ok (.getfield 229, 3) := by decide +kernel
theorem dX10_putsLaw_143 : decode cX10_putsLaw 143 = .ok (.ireturn, 1) := by decide +kernel
theorem dX10_putsMeanings_0 : decode cX10_putsMeanings 0 = .ok (.aload_n 0, 1) := by decide +kernel
theorem dX10_putsMeanings_1 : decode cX10_putsMeanings 1 = .ok (.getfield 7, 3) := by decide +kernel
theorem dX10_putsMeanings_4 : decode cX10_putsMeanings 4 = .ok (.bipush 66, 2) := by decide +kernel
theorem dX10_putsMeanings_6 : decode cX10_putsMeanings 6 = .ok (.aload_n 0, 1) := by decide +kernel
theorem dX10_putsMeanings_7 : decode cX10_putsMeanings 7 = .ok (.getfield 242, 3) := by decide +kernel
theorem dX10_putsMeanings_10 : decode cX10_putsMeanings 10 = .ok (.iastore, 1) := by decide +kernel
theorem dX10_putsMeanings_11 : decode cX10_putsMeanings 11 = .ok (.aload_n 0, 1) := by decide +kernel
theorem dX10_putsMeanings_12 : decode cX10_putsMeanings 12 = .ok (.getfield 7, 3) := by decide +kernel
theorem dX10_putsMeanings_15 : decode cX10_putsMeanings 15 = .ok (.bipush 68, 2) := by decide +kernel
theorem dX10_putsMeanings_17 : decode cX10_putsMeanings 17 = .ok (.iconst 0, 1) := by decide +kernel
theorem dX10_putsMeanings_18 : decode cX10_putsMeanings 18 = .ok (.iastore, 1) := by decide +kernel
theorem dX10_putsMeanings_19 : decode cX10_putsMeanings 19 = .ok (.iconst 0, 1) := by decide +kernel
theorem dX10_putsMeanings_20 : decode cX10_putsMeanings 20 = .ok (.istore_n 1, 1) := by decide +kernel
theorem dX10_putsMeanings_21 : decode cX10_putsMeanings 21 = .ok (.iload_n 1, 1) := by decide +kernel
theorem dX10_putsMeanings_22 : decode cX10_putsMeanings 22 = .ok (.aload_n 0, 1) := by decide +kernel
theorem dX10_putsMeanings_23 : decode cX10_putsMeanings 23 = .ok (.getfield 242, 3) := by decide +kernel
theorem dX10_putsMeanings_26 : decode cX10_putsMeanings 26 = .ok (.if_icmp .ge 25, 3) := by decide +kernel
theorem dX10_putsMeanings_29 : decode cX10_putsMeanings 29 = .ok (.aload_n 0, 1) := by decide +kernel
theorem dX10_putsMeanings_30 : decode cX10_putsMeanings 30 = .ok (.getfield 7, 3) := by decide +kernel
theorem dX10_putsMeanings_33 : decode cX10_putsMeanings 33 = .ok (.sipush 198, 3) := by decide +kernel
theorem dX10_putsMeanings_36 : decode cX10_putsMeanings 36 = .ok (.iload_n 1, 1) := by decide +kernel
theorem dX10_putsMeanings_37 : decode cX10_putsMeanings 37 = .ok (.iadd, 1) := by decide +kernel
theorem dX10_putsMeanings_38 : decode cX10_putsMeanings 38 = .ok (.aload_n 0, 1) := by decide +kernel
theorem dX10_putsMeanings_39 : decode cX10_putsMeanings 39 = .ok (.getfield 28, 3) := by decide +kernel
theorem dX10_putsMeanings_42 : decode cX10_putsMeanings 42 = .ok (.iload_n 1, 1) := by decide +kernel
theorem dX10_putsMeanings_43 : decode cX10_putsMeanings 43 = .ok (.iaload, 1) := by decide +kernel
theorem dX10_putsMeanings_44 : decode cX10_putsMeanings 44 = .ok (.iastore, 1) := by decide +kernel
theorem dX10_putsMeanings_45 : decode cX10_putsMeanings 45 = .ok (.iinc 1 1, 3) := by decide +kernel
theorem dX10_putsMeanings_48 : decode cX10_putsMeanings 48 = .ok (.goto (-27), 3) := by decide +kernel
theorem dX10_putsMeanings_51 : decode cX10_putsMeanings 51 = .ok (.iconst 0, 1) := by decide +kernel
theorem dX10_putsMeanings_52 : decode cX10_putsMeanings 52 = .ok (.istore_n 1, 1) := by decide +kernel
theorem dX10_putsMeanings_53 : decode cX10_putsMeanings 53 = .ok (.iload_n 1, 1) := by decide +kernel
theorem dX10_putsMeanings_54 : decode cX10_putsMeanings 54 = .ok (.bipush 42, 2) := by decide +kernel
theorem dX10_putsMeanings_56 : decode cX10_putsMeanings 56 = .ok (.aload_n 0, 1) := by decide +kernel
theorem dX10_putsMeanings_57 : decode cX10_putsMeanings 57 = .ok (.getfield 242, 3) := by decide +kernel
theorem dX10_putsMeanings_60 : decode cX10_putsMeanings 60 = .ok (.imul, 1) := by decide +kernel
theorem dX10_putsMeanings_61 : decode cX10_putsMeanings 61 = .ok (.if_icmp .ge 25, 3) := by decide +kernel
theorem dX10_putsMeanings_64 : decode cX10_putsMeanings 64 = .ok (.aload_n 0, 1) := by decide +kernel
theorem dX10_putsMeanings_65 : decode cX10_putsMeanings 65 = .ok (.getfield 7, 3) := by decide +kernel
theorem dX10_putsMeanings_68 : decode cX10_putsMeanings 68 = .ok (.sipush 208, 3) := by decide +kernel
theorem dX10_putsMeanings_71 : decode cX10_putsMeanings 71 = .ok (.iload_n 1, 1) := by decide +kernel
theorem dX10_putsMeanings_72 : decode cX10_putsMeanings 72 = .ok (.iadd, 1) := by decide +kernel
theorem dX10_putsMeanings_73 : decode cX10_putsMeanings 73 = .ok (.aload_n 0, 1) := by decide +kernel
theorem dX10_putsMeanings_74 : decode cX10_putsMeanings 74 = .ok (.getfield 31, 3) := by decide +kernel
theorem dX10_putsMeanings_77 : decode cX10_putsMeanings 77 = .ok (.iload_n 1, 1) := by decide +kernel
theorem dX10_putsMeanings_78 : decode cX10_putsMeanings 78 = .ok (.iaload, 1) := by decide +kernel
theorem dX10_putsMeanings_79 : decode cX10_putsMeanings 79 = .ok (.iastore, 1) := by decide +kernel
theorem dX10_putsMeanings_80 : decode cX10_putsMeanings 80 = .ok (.iinc 1 1, 3) := by decide +kernel
theorem dX10_putsMeanings_83 : decode cX10_putsMeanings 83 = .ok (.goto (-30), 3) := by decide +kernel
theorem dX10_putsMeanings_86 : decode cX10_putsMeanings 86 = .ok (.aload_n 0, 1) := by decide +kernel
theorem dX10_putsMeanings_87 : decode cX10_putsMeanings 87 = .ok (.getfield 242, 3) := by decide +kernel
theorem dX10_putsMeanings_90 : decode cX10_putsMeanings 90 = .ok (.ireturn, 1) := by decide +kernel
theorem dX10_puts_0 : decode cX10_puts 0 = .ok (.aload_n 0, 1) := by decide +kernel
theorem dX10_puts_1 : decode cX10_puts 1 = .ok (.getfield 7, 3) := by decide +kernel
theorem dX10_puts_4 : decode cX10_puts 4 = .ok (.iload_n 1, 1) := by decide +kernel
theorem dX10_puts_5 : decode cX10_puts 5 = .ok (.aload_n 0, 1) := by decide +kernel
theorem dX10_puts_6 : decode cX10_puts 6 = .ok (.getfield 242, 3) := by decide +kernel
theorem dX10_puts_9 : decode cX10_puts 9 = .ok (.iastore, 1) := by decide +kernel
theorem dX10_puts_10 : decode cX10_puts 10 = .ok (.iconst 0, 1) := by decide +kernel
theorem dX10_puts_11 : decode cX10_puts 11 = .ok (.istore 4, 2) := by decide +kernel
theorem dX10_puts_13 : decode cX10_puts 13 = .ok (.iload 4, 2) := by decide +kernel
theorem dX10_puts_15 : decode cX10_puts 15 = .ok (.iload_n 3, 1) := by decide +kernel
theorem dX10_puts_16 : decode cX10_puts 16 = .ok (.aload_n 0, 1) := by decide +kernel
theorem dX10_puts_17 : decode cX10_puts 17 = .ok (.getfield 242, 3) := by decide +kernel
theorem dX10_puts_20 : decode cX10_puts 20 = .ok (.imul, 1) := by decide +kernel
theorem dX10_puts_21 : decode cX10_puts 21 = .ok (.if_icmp .ge 25, 3) := by decide +kernel
theorem dX10_puts_24 : decode cX10_puts 24 = .ok (.aload_n 0, 1) := by decide +kernel
theorem dX10_puts_25 : decode cX10_puts 25 = .ok (.getfield 7, 3) := by decide +kernel
theorem dX10_puts_28 : decode cX10_puts 28 = .ok (.iload_n 2, 1) := by decide +kernel
theorem dX10_puts_29 : decode cX10_puts 29 = .ok (.iload 4, 2) := by decide +kernel
theorem dX10_puts_31 : decode cX10_puts 31 = .ok (.iadd, 1) := by decide +kernel
theorem dX10_puts_32 : decode cX10_puts 32 = .ok (.aload_n 0, 1) := by decide +kernel
theorem dX10_puts_33 : decode cX10_puts 33 = .ok (.getfield 34, 3) := by decide +kernel
theorem dX10_puts_36 : decode cX10_puts 36 = .ok (.iload 4, 2) := by decide +kernel
theorem dX10_puts_38 : decode cX10_puts 38 = .ok (.iaload, 1) := by decide +kernel
theorem dX10_puts_39 : decode cX10_puts 39 = .ok (.iastore, 1) := by decide +kernel
theorem dX10_puts_40 : decode cX10_puts 40 = .ok (.iinc 4 1, 3) := by decide +kernel
theorem dX10_puts_43 : decode cX10_puts 43 = .ok (.goto (-30), 3) := by decide +kernel
theorem dX10_puts_46 : decode cX10_puts 46 = .ok (.aload_n 0, 1) := by decide +kernel
theorem dX10_puts_47 : decode cX10_puts 47 = .ok (.getfield 242, 3) := by decide +kernel
theorem dX10_puts_50 : decode cX10_puts 50 = .ok (.ireturn, 1) := by decide +kernel
theorem dX10_putsText_0 : decode cX10_putsText 0 = .ok (.iload_n 1, 1) := by decide +kernel
theorem dX10_putsText_1 : decode cX10_putsText 1 = .ok (.tableswitch 52 0 2 #[27, 32, 37], 27) := by decide +kernel
theorem dX10_putsText_28 : decode cX10_putsText 28 = .ok (.aload_n 0, 1) := by decide +kernel
theorem dX10_putsText_29 : decode cX10_putsText 29 = .ok (.invokevirtual 260, 3) := by decide +kernel
theorem dX10_putsText_32 : decode cX10_putsText 32 = .ok (.ireturn, 1) := by decide +kernel
theorem dX10_putsText_33 : decode cX10_putsText 33 = .ok (.aload_n 0, 1) := by decide +kernel
theorem dX10_putsText_34 : decode cX10_putsText 34 = .ok (.invokevirtual 263, 3) := by decide +kernel
theorem dX10_putsText_37 : decode cX10_putsText 37 = .ok (.ireturn, 1) := by decide +kernel
theorem dX10_putsText_38 : decode cX10_putsText 38 = .ok (.aload_n 0, 1) := by decide +kernel
theorem dX10_putsText_39 : decode cX10_putsText 39 = .ok (.invokevirtual 66, 3) := by decide +kernel
theorem dX10_putsText_42 : decode cX10_putsText 42 = .ok (.aload_n 0, 1) := by decide +kernel
theorem dX10_putsText_43 : decode cX10_putsText 43 = .ok (.bipush 67, 2) := by decide +kernel
theorem dX10_putsText_45 : decode cX10_putsText 45 = .ok (.sipush 628, 3) := by decide +kernel
theorem dX10_putsText_48 : decode cX10_putsText 48 = .ok (.iconst 4, 1) := by decide +kernel
theorem dX10_putsText_49 : decode cX10_putsText 49 = .ok (.invokevirtual 266, 3) := by decide +kernel
theorem dX10_putsText_52 : decode cX10_putsText 52 = .ok (.ireturn, 1) := by decide +kernel
theorem dX10_putsText_53 : decode cX10_putsText 53 = .ok (.aload_n 0, 1) := by decide +kernel
