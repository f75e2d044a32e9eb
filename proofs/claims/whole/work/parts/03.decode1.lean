theorem dX6_readMember_0 : decode cX6_readMember 0 = .ok (.aload_n 1, 1) := by decide +kernel
theorem dX6_readMember_1 : decode cX6_readMember 1 = .ok (.getfield 54, 3) := by decide +kernel
theorem dX6_readMember_4 : decode cX6_readMember 4 = .ok (.iconst 5, 1) := by decide +kernel
theorem dX6_readMember_5 : decode cX6_readMember 5 = .ok (.if_icmp .ge 12, 3) := by decide +kernel
theorem dX6_readMember_8 : decode cX6_readMember 8 = .ok (.aload_n 0, 1) := by decide +kernel
theorem dX6_readMember_9 : decode cX6_readMember 9 = .ok (.iconst 0, 1) := by decide +kernel
theorem dX6_readMember_10 : decode cX6_readMember 10 = .ok (.iconst 5, 1) := by decide +kernel
theorem dX6_readMember_11 : decode cX6_readMember 11 = .ok (.invokevirtual 59, 3) := by decide +kernel
theorem dX6_readMember_14 : decode cX6_readMember 14 = .ok (.ifCond .ne 5, 3) := by decide +kernel
theorem dX6_readMember_17 : decode cX6_readMember 17 = .ok (.iconst 0, 1) := by decide +kernel
theorem dX6_readMember_18 : decode cX6_readMember 18 = .ok (.ireturn, 1) := by decide +kernel
theorem dX6_readMember_19 : decode cX6_readMember 19 = .ok (.aload_n 0, 1) := by decide +kernel
theorem dX6_readMember_20 : decode cX6_readMember 20 = .ok (.getfield 63, 3) := by decide +kernel
theorem dX6_readMember_23 : decode cX6_readMember 23 = .ok (.istore_n 2, 1) := by decide +kernel
theorem dX6_readMember_24 : decode cX6_readMember 24 = .ok (.aload_n 0, 1) := by decide +kernel
theorem dX6_readMember_25 : decode cX6_readMember 25 = .ok (.iconst 0, 1) := by decide +kernel
theorem dX6_readMember_26 : decode cX6_readMember 26 = .ok (.bipush 99, 2) := by decide +kernel
theorem dX6_readMember_28 : decode cX6_readMember 28 = .ok (.invokevirtual 59, 3) := by decide +kernel
theorem dX6_readMember_31 : decode cX6_readMember 31 = .ok (.ifCond .ne 5, 3) := by decide +kernel
theorem dX6_readMember_34 : decode cX6_readMember 34 = .ok (.iconst 0, 1) := by decide +kernel
theorem dX6_readMember_35 : decode cX6_readMember 35 = .ok (.ireturn, 1) := by decide +kernel
theorem dX6_readMember_36 : decode cX6_readMember 36 = .ok (.aload_n 1, 1) := by decide +kernel
theorem dX6_readMember_37 : decode cX6_readMember 37 = .ok (.iload_n 2, 1) := by decide +kernel
theorem dX6_readMember_38 : decode cX6_readMember 38 = .ok (.aload_n 0, 1) := by decide +kernel
theorem dX6_readMember_39 : decode cX6_readMember 39 = .ok (.getfield 63, 3) := by decide +kernel
theorem dX6_readMember_42 : decode cX6_readMember 42 = .ok (.invokevirtual 66, 3) := by decide +kernel
theorem dX6_readMember_45 : decode cX6_readMember 45 = .ok (.pop, 1) := by decide +kernel
theorem dX6_readMember_46 : decode cX6_readMember 46 = .ok (.iconst 1, 1) := by decide +kernel
theorem dX6_readMember_47 : decode cX6_readMember 47 = .ok (.ireturn, 1) := by decide +kernel
theorem dX6_readLetter_0 : decode cX6_readLetter 0 = .ok (.aload_n 1, 1) := by decide +kernel
theorem dX6_readLetter_1 : decode cX6_readLetter 1 = .ok (.getfield 70, 3) := by decide +kernel
theorem dX6_readLetter_4 : decode cX6_readLetter 4 = .ok (.bipush 6, 2) := by decide +kernel
theorem dX6_readLetter_6 : decode cX6_readLetter 6 = .ok (.if_icmp .ge 13, 3) := by decide +kernel
theorem dX6_readLetter_9 : decode cX6_readLetter 9 = .ok (.aload_n 0, 1) := by decide +kernel
theorem dX6_readLetter_10 : decode cX6_readLetter 10 = .ok (.iconst 0, 1) := by decide +kernel
theorem dX6_readLetter_11 : decode cX6_readLetter 11 = .ok (.bipush 99, 2) := by decide +kernel
theorem dX6_readLetter_13 : decode cX6_readLetter 13 = .ok (.invokevirtual 59, 3) := by decide +kernel
theorem dX6_readLetter_16 : decode cX6_readLetter 16 = .ok (.ifCond .ne 5, 3) := by decide +kernel
theorem dX6_readLetter_19 : decode cX6_readLetter 19 = .ok (.iconst 0, 1) := by decide +kernel
theorem dX6_readLetter_20 : decode cX6_readLetter 20 = .ok (.ireturn, 1) := by decide +kernel
theorem dX6_readLetter_21 : decode cX6_readLetter 21 = .ok (.aload_n 0, 1) := by decide +kernel
theorem dX6_readLetter_22 : decode cX6_readLetter 22 = .ok (.getfield 63, 3) := by decide +kernel
theorem dX6_readLetter_25 : decode cX6_readLetter 25 = .ok (.istore_n 2, 1) := by decide +kernel
theorem dX6_readLetter_26 : decode cX6_readLetter 26 = .ok (.aload_n 0, 1) := by decide +kernel
theorem dX6_readLetter_27 : decode cX6_readLetter 27 = .ok (.iconst 0, 1) := by decide +kernel
theorem dX6_readLetter_28 : decode cX6_readLetter 28 = .ok (.bipush 99, 2) := by decide +kernel
theorem dX6_readLetter_30 : decode cX6_readLetter 30 = .ok (.invokevirtual 59, 3) := by decide +kernel
theorem dX6_readLetter_33 : decode cX6_readLetter 33 = .ok (.ifCond .ne 5, 3) := by decide +kernel
theorem dX6_readLetter_36 : decode cX6_readLetter 36 = .ok (.iconst 0, 1) := by decide +kernel
theorem dX6_readLetter_37 : decode cX6_readLetter 37 = .ok (.ireturn, 1) := by decide +kernel
theorem dX6_readLetter_38 : decode cX6_readLetter 38 = .ok (.aload_n 0, 1) := by decide +kernel
theorem dX6_readLetter_39 : decode cX6_readLetter 39 = .ok (.getfield 63, 3) := by decide +kernel
theorem dX6_readLetter_42 : decode cX6_readLetter 42 = .ok (.istore_n 3, 1) := by decide +kernel
theorem dX6_readLetter_43 : decode cX6_readLetter 43 = .ok (.aload_n 0, 1) := by decide +kernel
theorem dX6_readLetter_44 : decode cX6_readLetter 44 = .ok (.iconst 1, 1) := by decide +kernel
theorem dX6_readLetter_45 : decode cX6_readLetter 45 = .ok (.bipush 9, 2) := by decide +kernel
theorem dX6_readLetter_47 : decode cX6_readLetter 47 = .ok (.invokevirtual 59, 3) := by decide +kernel
theorem dX6_readLetter_50 : decode cX6_readLetter 50 = .ok (.ifCond .ne 5, 3) := by decide +kernel
theorem dX6_readLetter_53 : decode cX6_readLetter 53 = .ok (.iconst 0, 1) := by decide +kernel
theorem dX6_readLetter_54 : decode cX6_readLetter 54 = .ok (.ireturn, 1) := by decide +kernel
theorem dX6_readLetter_55 : decode cX6_readLetter 55 = .ok (.aload_n 1, 1) := by decide +kernel
theorem dX6_readLetter_56 : decode cX6_readLetter 56 = .ok (.iload_n 2, 1) := by decide +kernel
theorem dX6_readLetter_57 : decode cX6_readLetter 57 = .ok (.iload_n 3, 1) := by decide +kernel
theorem dX6_readLetter_58 : decode cX6_readLetter 58 = .ok (.aload_n 0, 1) := by decide +kernel
theorem dX6_readLetter_59 : decode cX6_readLetter 59 = .ok (.getfield 63, 3) := by decide +kernel
theorem dX6_readLetter_62 : decode cX6_readLetter 62 = .ok (.invokevirtual 73, 3) := by decide +kernel
theorem dX6_readLetter_65 : decode cX6_readLetter 65 = .ok (.pop, 1) := by decide +kernel
theorem dX6_readLetter_66 : decode cX6_readLetter 66 = .ok (.iconst 1, 1) := by decide +kernel
theorem dX6_readLetter_67 : decode cX6_readLetter 67 = .ok (.ireturn, 1) := by decide +kernel
theorem dX6_readFrank_0 : decode cX6_readFrank 0 = .ok (.aload_n 0, 1) := by decide +kernel
theorem dX6_readFrank_1 : decode cX6_readFrank 1 = .ok (.iconst 0, 1) := by decide +kernel
theorem dX6_readFrank_2 : decode cX6_readFrank 2 = .ok (.aload_n 1, 1) := by decide +kernel
theorem dX6_readFrank_3 : decode cX6_readFrank 3 = .ok (.getfield 70, 3) := by decide +kernel
theorem dX6_readFrank_6 : decode cX6_readFrank 6 = .ok (.iconst 1, 1) := by decide +kernel
theorem dX6_readFrank_7 : decode cX6_readFrank 7 = .ok (.isub, 1) := by decide +kernel
theorem dX6_readFrank_8 : decode cX6_readFrank 8 = .ok (.invokevirtual 59, 3) := by decide +kernel
theorem dX6_readFrank_11 : decode cX6_readFrank 11 = .ok (.ifCond .ne 5, 3) := by decide +kernel
theorem dX6_readFrank_14 : decode cX6_readFrank 14 = .ok (.iconst 0, 1) := by decide +kernel
theorem dX6_readFrank_15 : decode cX6_readFrank 15 = .ok (.ireturn, 1) := by decide +kernel
theorem dX6_readFrank_16 : decode cX6_readFrank 16 = .ok (.aload_n 0, 1) := by decide +kernel
theorem dX6_readFrank_17 : decode cX6_readFrank 17 = .ok (.getfield 63, 3) := by decide +kernel
theorem dX6_readFrank_20 : decode cX6_readFrank 20 = .ok (.istore_n 2, 1) := by decide +kernel
theorem dX6_readFrank_21 : decode cX6_readFrank 21 = .ok (.aload_n 0, 1) := by decide +kernel
theorem dX6_readFrank_22 : decode cX6_readFrank 22 = .ok (.iconst 0, 1) := by decide +kernel
theorem dX6_readFrank_23 : decode cX6_readFrank 23 = .ok (.aload_n 1, 1) := by decide +kernel
theorem dX6_readFrank_24 : decode cX6_readFrank 24 = .ok (.getfield 54, 3) := by decide +kernel
theorem dX6_readFrank_27 : decode cX6_readFrank 27 = .ok (.iconst 1, 1) := by decide +kernel
theorem dX6_readFrank_28 : decode cX6_readFrank 28 = .ok (.isub, 1) := by decide +kernel
theorem dX6_readFrank_29 : decode cX6_readFrank 29 = .ok (.invokevirtual 59, 3) := by decide +kernel
theorem dX6_readFrank_32 : decode cX6_readFrank 32 = .ok (.ifCond .eq 15, 3) := by decide +kernel
theorem dX6_readFrank_35 : decode cX6_readFrank 35 = .ok (.aload_n 1, 1) := by decide +kernel
theorem dX6_readFrank_36 : decode cX6_readFrank 36 = .ok (.iload_n 2, 1) := by decide +kernel
theorem dX6_readFrank_37 : decode cX6_readFrank 37 = .ok (.aload_n 0, 1) := by decide +kernel
theorem dX6_readFrank_38 : decode cX6_readFrank 38 = .ok (.getfield 63, 3) := by decide +kernel
theorem dX6_readFrank_41 : decode cX6_readFrank 41 = .ok (.invokevirtual 77, 3) := by decide +kernel
theorem dX6_readFrank_44 : decode cX6_readFrank 44 = .ok (.ifCond .ne 5, 3) := by decide +kernel
theorem dX6_readFrank_47 : decode cX6_readFrank 47 = .ok (.iconst 0, 1) := by decide +kernel
theorem dX6_readFrank_48 : decode cX6_readFrank 48 = .ok (.ireturn, 1) := by decide +kernel
theorem dX6_readFrank_49 : decode cX6_readFrank 49 = .ok (.aload_n 1, 1) := by decide +kernel
theorem dX6_readFrank_50 : decode cX6_readFrank 50 = .ok (.iload_n 2, 1) := by decide +kernel
theorem dX6_readFrank_51 : decode cX6_readFrank 51 = .ok (.aload_n 0, 1) := by decide +kernel
theorem dX6_readFrank_52 : decode cX6_readFrank 52 = .ok (.getfield 63, 3) := by decide +kernel
theorem dX6_readFrank_55 : decode cX6_readFrank 55 = .ok (.invokevirtual 80, 3) := by decide +kernel
theorem dX6_readFrank_58 : decode cX6_readFrank 58 = .ok (.iconst 1, 1) := by decide +kernel
theorem dX6_readFrank_59 : decode cX6_readFrank 59 = .ok (.ireturn, 1) := by decide +kernel
theorem dX6_takesNumber_0 : decode cX6_takesNumber 0 = .ok (.aload_n 0, 1) := by decide +kernel
theorem dX6_takesNumber_1 : decode cX6_takesNumber 1 = .ok (.invokevirtual 22, 3) := by decide +kernel
theorem dX6_takesNumber_4 : decode cX6_takesNumber 4 = .ok (.aload_n 0, 1) := by decide +kernel
theorem dX6_takesNumber_5 : decode cX6_takesNumber 5 = .ok (.getfield 35, 3) := by decide +kernel
theorem dX6_takesNumber_8 : decode cX6_takesNumber 8 = .ok (.iconst 2, 1) := by decide +kernel
theorem dX6_takesNumber_9 : decode cX6_takesNumber 9 = .ok (.if_icmp .ne 19, 3) := by decide +kernel
theorem dX6_takesNumber_12 : decode cX6_takesNumber 12 = .ok (.aload_n 0, 1) := by decide +kernel
theorem dX6_takesNumber_13 : decode cX6_takesNumber 13 = .ok (.getfield 63, 3) := by decide +kernel
theorem dX6_takesNumber_16 : decode cX6_takesNumber 16 = .ok (.iload_n 1, 1) := by decide +kernel
theorem dX6_takesNumber_17 : decode cX6_takesNumber 17 = .ok (.iload_n 2, 1) := by decide +kernel
theorem dX6_takesNumber_18 : decode cX6_takesNumber 18 = .ok (.invokestatic 84, 3) := by decide +kernel
theorem dX6_takesNumber_21 : decode cX6_takesNumber 21 = .ok (.ifCond .eq 7, 3) := by decide +kernel
theorem dX6_takesNumber_24 : decode cX6_takesNumber 24 = .ok (.iconst 1, 1) := by decide +kernel
theorem dX6_takesNumber_25 : decode cX6_takesNumber 25 = .ok (.goto 4, 3) := by decide +kernel
theorem dX6_takesNumber_28 : decode cX6_takesNumber 28 = .ok (.iconst 0, 1) := by decide +kernel
theorem dX6_takesNumber_29 : decode cX6_takesNumber 29 = .ok (.ireturn, 1) := by decide +kernel
theorem dX6_stops_0 : decode cX6_stops 0 = .ok (.aload_n 0, 1) := by decide +kernel
theorem dX6_stops_1 : decode cX6_stops 1 = .ok (.invokevirtual 22, 3) := by decide +kernel
theorem dX6_stops_4 : decode cX6_stops 4 = .ok (.aload_n 0, 1) := by decide +kernel
theorem dX6_stops_5 : decode cX6_stops 5 = .ok (.getfield 35, 3) := by decide +kernel
theorem dX6_stops_8 : decode cX6_stops 8 = .ok (.iconst 3, 1) := by decide +kernel
theorem dX6_stops_9 : decode cX6_stops 9 = .ok (.if_icmp .ne 7, 3) := by decide +kernel
theorem dX6_stops_12 : decode cX6_stops 12 = .ok (.iconst 1, 1) := by decide +kernel
theorem dX6_stops_13 : decode cX6_stops 13 = .ok (.goto 4, 3) := by decide +kernel
theorem dX6_stops_16 : decode cX6_stops 16 = .ok (.iconst 0, 1) := by decide +kernel
theorem dX6_stops_17 : decode cX6_stops 17 = .ok (.ireturn, 1) := by decide +kernel
theorem dX6_nextToken_0 : decode cX6_nextToken 0 = .ok (.aload_n 0, 1) := by decide +kernel
theorem dX6_nextToken_1 : decode cX6_nextToken 1 = .ok (.aload_n 0, 1) := by decide +kernel
theorem dX6_nextToken_2 : decode cX6_nextToken 2 = .ok (.getfield 19, 3) := by decide +kernel
theorem dX6_nextToken_5 : decode cX6_nextToken 5 = .ok (.putfield 88, 3) := by decide +kernel
theorem dX6_nextToken_8 : decode cX6_nextToken 8 = .ok (.aload_n 0, 1) := by decide +kernel
theorem dX6_nextToken_9 : decode cX6_nextToken 9 = .ok (.getfield 88, 3) := by decide +kernel
theorem dX6_nextToken_12 : decode cX6_nextToken 12 = .ok (.aload_n 0, 1) := by decide +kernel
theorem dX6_nextToken_13 : decode cX6_nextToken 13 = .ok (.getfield 15, 3) := by decide +kernel
theorem dX6_nextToken_16 : decode cX6_nextToken 16 = .ok (.if_icmp .ge 30, 3) := by decide +kernel
theorem dX6_nextToken_19 : decode cX6_nextToken 19 = .ok (.aload_n 0, 1) := by decide +kernel
theorem dX6_nextToken_20 : decode cX6_nextToken 20 = .ok (.getfield 11, 3) := by decide +kernel
theorem dX6_nextToken_23 : decode cX6_nextToken 23 = .ok (.aload_n 0, 1) := by decide +kernel
theorem dX6_nextToken_24 : decode cX6_nextToken 24 = .ok (.getfield 88, 3) := by decide +kernel
theorem dX6_nextToken_27 : decode cX6_nextToken 27 = .ok (.baload, 1) := by decide +kernel
theorem dX6_nextToken_28 : decode cX6_nextToken 28 = .ok (.bipush 32, 2) := by decide +kernel
theorem dX6_nextToken_30 : decode cX6_nextToken 30 = .ok (.if_icmp .ne 16, 3) := by decide +kernel
theorem dX6_nextToken_33 : decode cX6_nextToken 33 = .ok (.aload_n 0, 1) := by decide +kernel
theorem dX6_nextToken_34 : decode cX6_nextToken 34 = .ok (.dup, 1) := by decide +kernel
theorem dX6_nextToken_35 : decode cX6_nextToken 35 = .ok (.getfield 88, 3) := by decide +kernel
theorem dX6_nextToken_38 : decode cX6_nextToken 38 = .ok (.iconst 1, 1) := by decide +kernel
theorem dX6_nextToken_39 : decode cX6_nextToken 39 = .ok (.iadd, 1) := by decide +kernel
theorem dX6_nextToken_40 : decode cX6_nextToken 40 = .ok (.putfield 88, 3) := by decide +kernel
theorem dX6_nextToken_43 : decode cX6_nextToken 43 = .ok (.goto (-35), 3) := by decide +kernel
theorem dX6_nextToken_46 : decode cX6_nextToken 46 = .ok (.aload_n 0, 1) := by decide +kernel
theorem dX6_nextToken_47 : decode cX6_nextToken 47 = .ok (.aload_n 0, 1) := by decide +kernel
theorem dX6_nextToken_48 : decode cX6_nextToken 48 = .ok (.getfield 88, 3) := by decide +kernel
theorem dX6_nextToken_51 : decode cX6_nextToken 51 = .ok (.putfield 19, 3) := by decide +kernel
theorem dX6_nextToken_54 : decode cX6_nextToken 54 = .ok (.aload_n 0, 1) := by decide +kernel
theorem dX6_nextToken_55 : decode cX6_nextToken 55 = .ok (.getfield 88, 3) := by decide +kernel
theorem dX6_nextToken_58 : decode cX6_nextToken 58 = .ok (.aload_n 0, 1) := by decide +kernel
theorem dX6_nextToken_59 : decode cX6_nextToken 59 = .ok (.getfield 15, 3) := by decide +kernel
theorem dX6_nextToken_62 : decode cX6_nextToken 62 = .ok (.if_icmp .lt 11, 3) := by decide +kernel
theorem dX6_nextToken_65 : decode cX6_nextToken 65 = .ok (.aload_n 0, 1) := by decide +kernel
theorem dX6_nextToken_66 : decode cX6_nextToken 66 = .ok (.iconst 0, 1) := by decide +kernel
theorem dX6_nextToken_67 : decode cX6_nextToken 67 = .ok (.putfield 35, 3) := by decide +kernel
theorem dX6_nextToken_70 : decode cX6_nextToken 70 = .ok (.goto 72, 3) := by decide +kernel
theorem dX6_nextToken_73 : decode cX6_nextToken 73 = .ok (.aload_n 0, 1) := by decide +kernel
theorem dX6_nextToken_74 : decode cX6_nextToken 74 = .ok (.aload_n 0, 1) := by decide +kernel
theorem dX6_nextToken_75 : decode cX6_nextToken 75 = .ok (.getfield 88, 3) := by decide +kernel
theorem dX6_nextToken_78 : decode cX6_nextToken 78 = .ok (.invokevirtual 91, 3) := by decide +kernel
theorem dX6_nextToken_81 : decode cX6_nextToken 81 = .ok (.ifCond .eq 10, 3) := by decide +kernel
theorem dX6_nextToken_84 : decode cX6_nextToken 84 = .ok (.aload_n 0, 1) := by decide +kernel
theorem dX6_nextToken_85 : decode cX6_nextToken 85 = .ok (.invokevirtual 95, 3) := by decide +kernel
theorem dX6_nextToken_88 : decode cX6_nextToken 88 = .ok (.goto 54, 3) := by decide +kernel
theorem dX6_nextToken_91 : decode cX6_nextToken 91 = .ok (.aload_n 0, 1) := by decide +kernel
theorem dX6_nextToken_92 : decode cX6_nextToken 92 = .ok (.aload_n 0, 1) := by decide +kernel
theorem dX6_nextToken_93 : decode cX6_nextToken 93 = .ok (.getfield 88, 3) := by decide +kernel
theorem dX6_nextToken_96 : decode cX6_nextToken 96 = .ok (.invokevirtual 98, 3) := by decide +kernel
theorem dX6_nextToken_99 : decode cX6_nextToken 99 = .ok (.ifCond .eq 10, 3) := by decide +kernel
theorem dX6_nextToken_102 : decode cX6_nextToken 102 = .ok (.aload_n 0, 1) := by decide +kernel
theorem dX6_nextToken_103 : decode cX6_nextToken 103 = .ok (.invokevirtual 101, 3) := by decide +kernel
theorem dX6_nextToken_106 : decode cX6_nextToken 106 = .ok (.goto 36, 3) := by decide +kernel
theorem dX6_nextToken_109 : decode cX6_nextToken 109 = .ok (.aload_n 0, 1) := by decide +kernel
theorem dX6_nextToken_110 : decode cX6_nextToken 110 = .ok (.aload_n 0, 1) := by decide +kernel
theorem dX6_nextToken_111 : decode cX6_nextToken 111 = .ok (.getfield 11, 3) := by decide +kernel
theorem dX6_nextToken_114 : decode cX6_nextToken 114 = .ok (.aload_n 0, 1) := by decide +kernel
theorem dX6_nextToken_115 : decode cX6_nextToken 115 = .ok (.getfield 88, 3) := by decide +kernel
theorem dX6_nextToken_118 : decode cX6_nextToken 118 = .ok (.baload, 1) := by decide +kernel
theorem dX6_nextToken_119 : decode cX6_nextToken 119 = .ok (.bipush 59, 2) := by decide +kernel
theorem dX6_nextToken_121 : decode cX6_nextToken 121 = .ok (.if_icmp .ne 7, 3) := by decide +kernel
theorem dX6_nextToken_124 : decode cX6_nextToken 124 = .ok (.iconst 3, 1) := by decide +kernel
theorem dX6_nextToken_125 : decode cX6_nextToken 125 = .ok (.goto 4, 3) := by decide +kernel
theorem dX6_nextToken_128 : decode cX6_nextToken 128 = .ok (.iconst 4, 1) := by decide +kernel
theorem dX6_nextToken_129 : decode cX6_nextToken 129 = .ok (.putfield 35, 3) := by decide +kernel
theorem dX6_nextToken_132 : decode cX6_nextToken 132 = .ok (.aload_n 0, 1) := by decide +kernel
theorem dX6_nextToken_133 : decode cX6_nextToken 133 = .ok (.aload_n 0, 1) := by decide +kernel
theorem dX6_nextToken_134 : decode cX6_nextToken 134 = .ok (.getfield 88, 3) := by decide +kernel
theorem dX6_nextToken_137 : decode cX6_nextToken 137 = .ok (.iconst 1, 1) := by decide +kernel
theorem dX6_nextToken_138 : decode cX6_nextToken 138 = .ok (.iadd, 1) := by decide +kernel
theorem dX6_nextToken_139 : decode cX6_nextToken 139 = .ok (.putfield 19, 3) := by decide +kernel
theorem dX6_nextToken_142 : decode cX6_nextToken 142 = .ok (.return_, 1) := by decide +kernel
theorem dX6_readWord_0 : decode cX6_readWord 0 = .ok (.aload_n 0, 1) := by decide +kernel
theorem dX6_readWord_1 : decode cX6_readWord 1 = .ok (.iconst 1, 1) := by decide +kernel
theorem dX6_readWord_2 : decode cX6_readWord 2 = .ok (.putfield 35, 3) := by decide +kernel
theorem dX6_readWord_5 : decode cX6_readWord 5 = .ok (.aload_n 0, 1) := by decide +kernel
theorem dX6_readWord_6 : decode cX6_readWord 6 = .ok (.getfield 19, 3) := by decide +kernel
theorem dX6_readWord_9 : decode cX6_readWord 9 = .ok (.aload_n 0, 1) := by decide +kernel
theorem dX6_readWord_10 : decode cX6_readWord 10 = .ok (.getfield 15, 3) := by decide +kernel
theorem dX6_readWord_13 : decode cX6_readWord 13 = .ok (.if_icmp .ge 27, 3) := by decide +kernel
theorem dX6_readWord_16 : decode cX6_readWord 16 = .ok (.aload_n 0, 1) := by decide +kernel
theorem dX6_readWord_17 : decode cX6_readWord 17 = .ok (.aload_n 0, 1) := by decide +kernel
theorem dX6_readWord_18 : decode cX6_readWord 18 = .ok (.getfield 19, 3) := by decide +kernel
theorem dX6_readWord_21 : decode cX6_readWord 21 = .ok (.invokevirtual 91, 3) := by decide +kernel
theorem dX6_readWord_24 : decode cX6_readWord 24 = .ok (.ifCond .eq 16, 3) := by decide +kernel
theorem dX6_readWord_27 : decode cX6_readWord 27 = .ok (.aload_n 0, 1) := by decide +kernel
theorem dX6_readWord_28 : decode cX6_readWord 28 = .ok (.dup, 1) := by decide +kernel
theorem dX6_readWord_29 : decode cX6_readWord 29 = .ok (.getfield 19, 3) := by decide +kernel
theorem dX6_readWord_32 : decode cX6_readWord 32 = .ok (.iconst 1, 1) := by decide +kernel
theorem dX6_readWord_33 : decode cX6_readWord 33 = .ok (.iadd, 1) := by decide +kernel
theorem dX6_readWord_34 : decode cX6_readWord 34 = .ok (.putfield 19, 3) := by decide +kernel
theorem dX6_readWord_37 : decode cX6_readWord 37 = .ok (.goto (-32), 3) := by decide +kernel
theorem dX6_readWord_40 : decode cX6_readWord 40 = .ok (.return_, 1) := by decide +kernel
theorem dX6_readNumber_0 : decode cX6_readNumber 0 = .ok (.aload_n 0, 1) := by decide +kernel
theorem dX6_readNumber_1 : decode cX6_readNumber 1 = .ok (.iconst 0, 1) := by decide +kernel
theorem dX6_readNumber_2 : decode cX6_readNumber 2 = .ok (.putfield 63, 3) := by decide +kernel
theorem dX6_readNumber_5 : decode cX6_readNumber 5 = .ok (.aload_n 0, 1) := by decide +kernel
theorem dX6_readNumber_6 : decode cX6_readNumber 6 = .ok (.getfield 19, 3) := by decide +kernel
theorem dX6_readNumber_9 : decode cX6_readNumber 9 = .ok (.aload_n 0, 1) := by decide +kernel
theorem dX6_readNumber_10 : decode cX6_readNumber 10 = .ok (.getfield 15, 3) := by decide +kernel
theorem dX6_readNumber_13 : decode cX6_readNumber 13 = .ok (.if_icmp .ge 64, 3) := by decide +kernel
theorem dX6_readNumber_16 : decode cX6_readNumber 16 = .ok (.aload_n 0, 1) := by decide +kernel
theorem dX6_readNumber_17 : decode cX6_readNumber 17 = .ok (.aload_n 0, 1) := by decide +kernel
theorem dX6_readNumber_18 : decode cX6_readNumber 18 = .ok (.getfield 19, 3) := by decide +kernel
theorem dX6_readNumber_21 : decode cX6_readNumber 21 = .ok (.invokevirtual 98, 3) := by decide +kernel
theorem dX6_readNumber_24 : decode cX6_readNumber 24 = .ok (.ifCond .eq 53, 3) := by decide +kernel
theorem dX6_readNumber_27 : decode cX6_readNumber 27 = .ok (.aload_n 0, 1) := by decide +kernel
theorem dX6_readNumber_28 : decode cX6_readNumber 28 = .ok (.getfield 19, 3) := by decide +kernel
theorem dX6_readNumber_31 : decode cX6_readNumber 31 = .ok (.aload_n 0, 1) := by decide +kernel
theorem dX6_readNumber_32 : decode cX6_readNumber 32 = .ok (.getfield 88, 3) := by decide +kernel
theorem dX6_readNumber_35 : decode cX6_readNumber 35 = .ok (.isub, 1) := by decide +kernel
theorem dX6_readNumber_36 : decode cX6_readNumber 36 = .ok (.iconst 2, 1) := by decide +kernel
theorem dX6_readNumber_37 : decode cX6_readNumber 37 = .ok (.if_icmp .ge 27, 3) := by decide +kernel
theorem dX6_readNumber_40 : decode cX6_readNumber 40 = .ok (.aload_n 0, 1) := by decide +kernel
theorem dX6_readNumber_41 : decode cX6_readNumber 41 = .ok (.bipush 10, 2) := by decide +kernel
theorem dX6_readNumber_43 : decode cX6_readNumber 43 = .ok (.aload_n 0, 1) := by decide +kernel
theorem dX6_readNumber_44 : decode cX6_readNumber 44 = .ok (.getfield 63, 3) := by decide +kernel
theorem dX6_readNumber_47 : decode cX6_readNumber 47 = .ok (.imul, 1) := by decide +kernel
theorem dX6_readNumber_48 : decode cX6_readNumber 48 = .ok (.aload_n 0, 1) := by decide +kernel
theorem dX6_readNumber_49 : decode cX6_readNumber 49 = .ok (.getfield 11, 3) := by decide +kernel
theorem dX6_readNumber_52 : decode cX6_readNumber 52 = .ok (.aload_n 0, 1) := by decide +kernel
theorem dX6_readNumber_53 : decode cX6_readNumber 53 = .ok (.getfield 19, 3) := by decide +kernel
theorem dX6_readNumber_56 : decode cX6_readNumber 56 = .ok (.baload, 1) := by decide +kernel
theorem dX6_readNumber_57 : decode cX6_readNumber 57 = .ok (.iadd, 1) := by decide +kernel
theorem dX6_readNumber_58 : decode cX6_readNumber 58 = .ok (.bipush 48, 2) := by decide +kernel
theorem dX6_readNumber_60 : decode cX6_readNumber 60 = .ok (.isub, 1) := by decide +kernel
theorem dX6_readNumber_61 : decode cX6_readNumber 61 = .ok (.putfield 63, 3) := by decide +kernel
theorem dX6_readNumber_64 : decode cX6_readNumber 64 = .ok (.aload_n 0, 1) := by decide +kernel
theorem dX6_readNumber_65 : decode cX6_readNumber 65 = .ok (.dup, 1) := by decide +kernel
theorem dX6_readNumber_66 : decode cX6_readNumber 66 = .ok (.getfield 19, 3) := by decide +kernel
theorem dX6_readNumber_69 : decode cX6_readNumber 69 = .ok (.iconst 1, 1) := by decide +kernel
theorem dX6_readNumber_70 : decode cX6_readNumber 70 = .ok (.iadd, 1) := by decide +kernel
theorem dX6_readNumber_71 : decode cX6_readNumber 71 = .ok (.putfield 19, 3) := by decide +kernel
theorem dX6_readNumber_74 : decode cX6_readNumber 74 = .ok (.goto (-69), 3) := by decide +kernel
theorem dX6_readNumber_77 : decode cX6_readNumber 77 = .ok (.aload_n 0, 1) := by decide +kernel
theorem dX6_readNumber_78 : decode cX6_readNumber 78 = .ok (.aload_n 0, 1) := by decide +kernel
theorem dX6_readNumber_79 : decode cX6_readNumber 79 = .ok (.getfield 19, 3) := by decide +kernel
theorem dX6_readNumber_82 : decode cX6_readNumber 82 = .ok (.aload_n 0, 1) := by decide +kernel
theorem dX6_readNumber_83 : decode cX6_readNumber 83 = .ok (.getfield 88, 3) := by decide +kernel
theorem dX6_readNumber_86 : decode cX6_readNumber 86 = .ok (.isub, 1) := by decide +kernel
theorem dX6_readNumber_87 : decode cX6_readNumber 87 = .ok (.iconst 2, 1) := by decide +kernel
theorem dX6_readNumber_88 : decode cX6_readNumber 88 = .ok (.if_icmp .gt 7, 3) := by decide +kernel
theorem dX6_readNumber_91 : decode cX6_readNumber 91 = .ok (.iconst 2, 1) := by decide +kernel
theorem dX6_readNumber_92 : decode cX6_readNumber 92 = .ok (.goto 4, 3) := by decide +kernel
theorem dX6_readNumber_95 : decode cX6_readNumber 95 = .ok (.iconst 4, 1) := by decide +kernel
theorem dX6_readNumber_96 : decode cX6_readNumber 96 = .ok (.putfield 35, 3) := by decide +kernel
theorem dX6_readNumber_99 : decode cX6_readNumber 99 = .ok (.return_, 1) := by decide +kernel
theorem dX6_isLower_0 : decode cX6_isLower 0 = .ok (.aload_n 0, 1) := by decide +kernel
theorem dX6_isLower_1 : decode cX6_isLower 1 = .ok (.getfield 11, 3) := by decide +kernel
theorem dX6_isLower_4 : decode cX6_isLower 4 = .ok (.iload_n 1, 1) := by decide +kernel
theorem dX6_isLower_5 : decode cX6_isLower 5 = .ok (.baload, 1) := by decide +kernel
theorem dX6_isLower_6 : decode cX6_isLower 6 = .ok (.bipush 97, 2) := by decide +kernel
theorem dX6_isLower_8 : decode cX6_isLower 8 = .ok (.if_icmp .lt 18, 3) := by decide +kernel
theorem dX6_isLower_11 : decode cX6_isLower 11 = .ok (.aload_n 0, 1) := by decide +kernel
theorem dX6_isLower_12 : decode cX6_isLower 12 = .ok (.getfield 11, 3) := by decide +kernel
theorem dX6_isLower_15 : decode cX6_isLower 15 = .ok (.iload_n 1, 1) := by decide +kernel
theorem dX6_isLower_16 : decode cX6_isLower 16 = .ok (.baload, 1) := by decide +kernel
theorem dX6_isLower_17 : decode cX6_isLower 17 = .ok (.bipush 122, 2) := by decide +kernel
theorem dX6_isLower_19 : decode cX6_isLower 19 = .ok (.if_icmp .gt 7, 3) := by decide +kernel
theorem dX6_isLower_22 : decode cX6_isLower 22 = .ok (.iconst 1, 1) := by decide +kernel
theorem dX6_isLower_23 : decode cX6_isLower 23 = .ok (.goto 4, 3) := by decide +kernel
theorem dX6_isLower_26 : decode cX6_isLower 26 = .ok (.iconst 0, 1) := by decide +kernel
theorem dX6_isLower_27 : decode cX6_isLower 27 = .ok (.ireturn, 1) := by decide +kernel
theorem dX6_isFigure_0 : decode cX6_isFigure 0 = .ok (.aload_n 0, 1) := by decide +kernel
theorem dX6_isFigure_1 : decode cX6_isFigure 1 = .ok (.getfield 11, 3) := by decide +kernel
theorem dX6_isFigure_4 : decode cX6_isFigure 4 = .ok (.iload_n 1, 1) := by decide +kernel
theorem dX6_isFigure_5 : decode cX6_isFigure 5 = .ok (.baload, 1) := by decide +kernel
theorem dX6_isFigure_6 : decode cX6_isFigure 6 = .ok (.bipush 48, 2) := by decide +kernel
theorem dX6_isFigure_8 : decode cX6_isFigure 8 = .ok (.if_icmp .lt 18, 3) := by decide +kernel
theorem dX6_isFigure_11 : decode cX6_isFigure 11 = .ok (.aload_n 0, 1) := by decide +kernel
theorem dX6_isFigure_12 : decode cX6_isFigure 12 = .ok (.getfield 11, 3) := by decide +kernel
theorem dX6_isFigure_15 : decode cX6_isFigure 15 = .ok (.iload_n 1, 1) := by decide +kernel
theorem dX6_isFigure_16 : decode cX6_isFigure 16 = .ok (.baload, 1) := by decide +kernel
theorem dX6_isFigure_17 : decode cX6_isFigure 17 = .ok (.bipush 57, 2) := by decide +kernel
theorem dX6_isFigure_19 : decode cX6_isFigure 19 = .ok (.if_icmp .gt 7, 3) := by decide +kernel
theorem dX6_isFigure_22 : decode cX6_isFigure 22 = .ok (.iconst 1, 1) := by decide +kernel
theorem dX6_isFigure_23 : decode cX6_isFigure 23 = .ok (.goto 4, 3) := by decide +kernel
theorem dX6_isFigure_26 : decode cX6_isFigure 26 = .ok (.iconst 0, 1) := by decide +kernel
theorem dX6_isFigure_27 : decode cX6_isFigure 27 = .ok (.ireturn, 1) := by decide +kernel
theorem dX6_isWord_0 : decode cX6_isWord 0 = .ok (.aload_n 0, 1) := by decide +kernel
theorem dX6_isWord_1 : decode cX6_isWord 1 = .ok (.getfield 35, 3) := by decide +kernel
theorem dX6_isWord_4 : decode cX6_isWord 4 = .ok (.iconst 1, 1) := by decide +kernel
theorem dX6_isWord_5 : decode cX6_isWord 5 = .ok (.if_icmp .ne 19, 3) := by decide +kernel
theorem dX6_isWord_8 : decode cX6_isWord 8 = .ok (.aload_n 0, 1) := by decide +kernel
theorem dX6_isWord_9 : decode cX6_isWord 9 = .ok (.getfield 19, 3) := by decide +kernel
theorem dX6_isWord_12 : decode cX6_isWord 12 = .ok (.aload_n 0, 1) := by decide +kernel
theorem dX6_isWord_13 : decode cX6_isWord 13 = .ok (.getfield 88, 3) := by decide +kernel
theorem dX6_isWord_16 : decode cX6_isWord 16 = .ok (.isub, 1) := by decide +kernel
theorem dX6_isWord_17 : decode cX6_isWord 17 = .ok (.aload_n 1, 1) := by decide +kernel
theorem dX6_isWord_18 : decode cX6_isWord 18 = .ok (.invokevirtual 104, 3) := by decide +kernel
theorem dX6_isWord_21 : decode cX6_isWord 21 = .ok (.if_icmp .eq 5, 3) := by decide +kernel
theorem dX6_isWord_24 : decode cX6_isWord 24 = .ok (.iconst 0, 1) := by decide +kernel
theorem dX6_isWord_25 : decode cX6_isWord 25 = .ok (.ireturn, 1) := by decide +kernel
theorem dX6_isWord_26 : decode cX6_isWord 26 = .ok (.iconst 0, 1) := by decide +kernel
theorem dX6_isWord_27 : decode cX6_isWord 27 = .ok (.istore_n 2, 1) := by decide +kernel
theorem dX6_isWord_28 : decode cX6_isWord 28 = .ok (.iload_n 2, 1) := by decide +kernel
theorem dX6_isWord_29 : decode cX6_isWord 29 = .ok (.aload_n 1, 1) := by decide +kernel
theorem dX6_isWord_30 : decode cX6_isWord 30 = .ok (.invokevirtual 104, 3) := by decide +kernel
theorem dX6_isWord_33 : decode cX6_isWord 33 = .ok (.if_icmp .ge 30, 3) := by decide +kernel
theorem dX6_isWord_36 : decode cX6_isWord 36 = .ok (.aload_n 0, 1) := by decide +kernel
theorem dX6_isWord_37 : decode cX6_isWord 37 = .ok (.getfield 11, 3) := by decide +kernel
theorem dX6_isWord_40 : decode cX6_isWord 40 = .ok (.aload_n 0, 1) := by decide +kernel
theorem dX6_isWord_41 : decode cX6_isWord 41 = .ok (.getfield 88, 3) := by decide +kernel
theorem dX6_isWord_44 : decode cX6_isWord 44 = .ok (.iload_n 2, 1) := by decide +kernel
theorem dX6_isWord_45 : decode cX6_isWord 45 = .ok (.iadd, 1) := by decide +kernel
theorem dX6_isWord_46 : decode cX6_isWord 46 = .ok (.baload, 1) := by decide +kernel
theorem dX6_isWord_47 : decode cX6_isWord 47 = .ok (.aload_n 1, 1) := by decide +kernel
theorem dX6_isWord_48 : decode cX6_isWord 48 = .ok (.iload_n 2, 1) := by decide +kernel
theorem dX6_isWord_49 : decode cX6_isWord 49 = .ok (.invokevirtual 109, 3) := by decide +kernel
theorem dX6_isWord_52 : decode cX6_isWord 52 = .ok (.if_icmp .eq 5, 3) := by decide +kernel
theorem dX6_isWord_55 : decode cX6_isWord 55 = .ok (.iconst 0, 1) := by decide +kernel
theorem dX6_isWord_56 : decode cX6_isWord 56 = .ok (.ireturn, 1) := by decide +kernel
theorem dX6_isWord_57 : decode cX6_isWord 57 = .ok (.iinc 2 1, 3) := by decide +kernel
theorem dX6_isWord_60 : decode cX6_isWord 60 = .ok (.goto (-32), 3) := by decide +kernel
theorem dX6_isWord_63 : decode cX6_isWord 63 = .ok (.iconst 1, 1) := by decide +kernel
theorem dX6_isWord_64 : decode cX6_isWord 64 = .ok (.ireturn, 1) := by decide +kernel
theorem dX7_init_0 : decode cX7_init 0 = .ok (.aload_n 0, 1) := by decide +kernel
theorem dX7_init_1 : decode cX7_init 1 = .ok (.invokespecial 1, 3) := by decide +kernel
theorem dX7_init_4 : decode cX7_init 4 = .ok (.return_, 1) := by decide +kernel
theorem dX7_signs_0 : decode cX7_signs 0 = .ok (.iload_n 1, 1) := by decide +kernel
theorem dX7_signs_1 : decode cX7_signs 1 = .ok (.iconst 2, 1) := by decide +kernel
theorem dX7_signs_2 : decode cX7_signs 2 = .ok (.irem, 1) := by decide +kernel
theorem dX7_signs_3 : decode cX7_signs 3 = .ok (.ifCond .ne 13, 3) := by decide +kernel
theorem dX7_signs_6 : decode cX7_signs 6 = .ok (.aload_n 0, 1) := by decide +kernel
theorem dX7_signs_7 : decode cX7_signs 7 = .ok (.iload_n 1, 1) := by decide +kernel
theorem dX7_signs_8 : decode cX7_signs 8 = .ok (.invokespecial 7, 3) := by decide +kernel
theorem dX7_signs_11 : decode cX7_signs 11 = .ok (.iconst 2, 1) := by decide +kernel
theorem dX7_signs_12 : decode cX7_signs 12 = .ok (.idiv, 1) := by decide +kernel
theorem dX7_signs_13 : decode cX7_signs 13 = .ok (.goto 8, 3) := by decide +kernel
theorem dX7_signs_16 : decode cX7_signs 16 = .ok (.aload_n 0, 1) := by decide +kernel
theorem dX7_signs_17 : decode cX7_signs 17 = .ok (.iload_n 1, 1) := by decide +kernel
theorem dX7_signs_18 : decode cX7_signs 18 = .ok (.invokespecial 7, 3) := by decide +kernel
theorem dX7_signs_21 : decode cX7_signs 21 = .ok (.ireturn, 1) := by decide +kernel
theorem dX8_init_0 : decode cX8_init 0 = .ok (.aload_n 0, 1) := by decide +kernel
theorem dX8_init_1 : decode cX8_init 1 = .ok (.invokespecial 3, 3) := by decide +kernel
theorem dX8_init_4 : decode cX8_init 4 = .ok (.aload_n 0, 1) := by decide +kernel
theorem dX8_init_5 : decode cX8_init 5 = .ok (.bipush 6, 2) := by decide +kernel
theorem dX8_init_7 : decode cX8_init 7 = .ok (.newarray .int, 2) := by decide +kernel
theorem dX8_init_9 : decode cX8_init 9 = .ok (.putfield 11, 3) := by decide +kernel
theorem dX8_init_12 : decode cX8_init 12 = .ok (.aload_n 0, 1) := by decide +kernel
theorem dX8_init_13 : decode cX8_init 13 = .ok (.bipush 6, 2) := by decide +kernel
theorem dX8_init_15 : decode cX8_init 15 = .ok (.newarray .int, 2) := by decide +kernel
theorem dX8_init_17 : decode cX8_init 17 = .ok (.putfield 15, 3) := by decide +kernel
theorem dX8_init_20 : decode cX8_init 20 = .ok (.aload_n 0, 1) := by decide +kernel
theorem dX8_init_21 : decode cX8_init 21 = .ok (.bipush 6, 2) := by decide +kernel
theorem dX8_init_23 : decode cX8_init 23 = .ok (.newarray .int, 2) := by decide +kernel
theorem dX8_init_25 : decode cX8_init 25 = .ok (.putfield 18, 3) := by decide +kernel
theorem dX8_init_28 : decode cX8_init 28 = .ok (.return_, 1) := by decide +kernel
theorem dX8_add_0 : decode cX8_add 0 = .ok (.aload_n 0, 1) := by decide +kernel
theorem dX8_add_1 : decode cX8_add 1 = .ok (.getfield 21, 3) := by decide +kernel
theorem dX8_add_4 : decode cX8_add 4 = .ok (.bipush 6, 2) := by decide +kernel
theorem dX8_add_6 : decode cX8_add 6 = .ok (.if_icmp .lt 5, 3) := by decide +kernel
theorem dX8_add_9 : decode cX8_add 9 = .ok (.iconst 0, 1) := by decide +kernel
theorem dX8_add_10 : decode cX8_add 10 = .ok (.ireturn, 1) := by decide +kernel
theorem dX8_add_11 : decode cX8_add 11 = .ok (.aload_n 0, 1) := by decide +kernel
theorem dX8_add_12 : decode cX8_add 12 = .ok (.getfield 11, 3) := by decide +kernel
theorem dX8_add_15 : decode cX8_add 15 = .ok (.aload_n 0, 1) := by decide +kernel
theorem dX8_add_16 : decode cX8_add 16 = .ok (.getfield 21, 3) := by decide +kernel
theorem dX8_add_19 : decode cX8_add 19 = .ok (.iload_n 1, 1) := by decide +kernel
theorem dX8_add_20 : decode cX8_add 20 = .ok (.iastore, 1) := by decide +kernel
theorem dX8_add_21 : decode cX8_add 21 = .ok (.aload_n 0, 1) := by decide +kernel
theorem dX8_add_22 : decode cX8_add 22 = .ok (.getfield 15, 3) := by decide +kernel
theorem dX8_add_25 : decode cX8_add 25 = .ok (.aload_n 0, 1) := by decide +kernel
theorem dX8_add_26 : decode cX8_add 26 = .ok (.getfield 21, 3) := by decide +kernel
theorem dX8_add_29 : decode cX8_add 29 = .ok (.iload_n 2, 1) := by decide +kernel
theorem dX8_add_30 : decode cX8_add 30 = .ok (.iastore, 1) := by decide +kernel
theorem dX8_add_31 : decode cX8_add 31 = .ok (.aload_n 0, 1) := by decide +kernel
theorem dX8_add_32 : decode cX8_add 32 = .ok (.getfield 18, 3) := by decide +kernel
theorem dX8_add_35 : decode cX8_add 35 = .ok (.aload_n 0, 1) := by decide +kernel
theorem dX8_add_36 : decode cX8_add 36 = .ok (.getfield 21, 3) := by decide +kernel
theorem dX8_add_39 : decode cX8_add 39 = .ok (.iload_n 3, 1) := by decide +kernel
theorem dX8_add_40 : decode cX8_add 40 = .ok (.iastore, 1) := by decide +kernel
theorem dX8_add_41 : decode cX8_add 41 = .ok (.aload_n 0, 1) := by decide +kernel
theorem dX8_add_42 : decode cX8_add 42 = .ok (.dup, 1) := by decide +kernel
theorem dX8_add_43 : decode cX8_add 43 = .ok (.getfield 21, 3) := by decide +kernel
theorem dX8_add_46 : decode cX8_add 46 = .ok (.iconst 1, 1) := by decide +kernel
theorem dX8_add_47 : decode cX8_add 47 = .ok (.iadd, 1) := by decide +kernel
theorem dX8_add_48 : decode cX8_add 48 = .ok (.putfield 21, 3) := by decide +kernel
theorem dX8_add_51 : decode cX8_add 51 = .ok (.iconst 1, 1) := by decide +kernel
theorem dX8_add_52 : decode cX8_add 52 = .ok (.ireturn, 1) := by decide +kernel
theorem dX8_takeOver_0 : decode cX8_takeOver 0 = .ok (.aload_n 0, 1) := by decide +kernel
theorem dX8_takeOver_1 : decode cX8_takeOver 1 = .ok (.aload_n 1, 1) := by decide +kernel
theorem dX8_takeOver_2 : decode cX8_takeOver 2 = .ok (.getfield 21, 3) := by decide +kernel
theorem dX8_takeOver_5 : decode cX8_takeOver 5 = .ok (.putfield 21, 3) := by decide +kernel
theorem dX8_takeOver_8 : decode cX8_takeOver 8 = .ok (.aload_n 1, 1) := by decide +kernel
theorem dX8_takeOver_9 : decode cX8_takeOver 9 = .ok (.getfield 11, 3) := by decide +kernel
theorem dX8_takeOver_12 : decode cX8_takeOver 12 = .ok (.iconst 0, 1) := by decide +kernel
theorem dX8_takeOver_13 : decode cX8_takeOver 13 = .ok (.aload_n 0, 1) := by decide +kernel
theorem dX8_takeOver_14 : decode cX8_takeOver 14 = .ok (.getfield 11, 3) := by decide +kernel
theorem dX8_takeOver_17 : decode cX8_takeOver 17 = .ok (.iconst 0, 1) := by decide +kernel
theorem dX8_takeOver_18 : decode cX8_takeOver 18 = .ok (.bipush 6, 2) := by decide +kernel
theorem dX8_takeOver_20 : decode cX8_takeOver 20 = .ok (.invokestatic 25, 3) := by decide +kernel
theorem dX8_takeOver_23 : decode cX8_takeOver 23 = .ok (.aload_n 1, 1) := by decide +kernel
theorem dX8_takeOver_24 : decode cX8_takeOver 24 = .ok (.getfield 15, 3) := by decide +kernel
theorem dX8_takeOver_27 : decode cX8_takeOver 27 = .ok (.iconst 0, 1) := by decide +kernel
theorem dX8_takeOver_28 : decode cX8_takeOver 28 = .ok (.aload_n 0, 1) := by decide +kernel
theorem dX8_takeOver_29 : decode cX8_takeOver 29 = .ok (.getfield 15, 3) := by decide +kernel
theorem dX8_takeOver_32 : decode cX8_takeOver 32 = .ok (.iconst 0, 1) := by decide +kernel
theorem dX8_takeOver_33 : decode cX8_takeOver 33 = .ok (.bipush 6, 2) := by decide +kernel
theorem dX8_takeOver_35 : decode cX8_takeOver 35 = .ok (.invokestatic 25, 3) := by decide +kernel
theorem dX8_takeOver_38 : decode cX8_takeOver 38 = .ok (.aload_n 1, 1) := by decide +kernel
theorem dX8_takeOver_39 : decode cX8_takeOver 39 = .ok (.getfield 18, 3) := by decide +kernel
theorem dX8_takeOver_42 : decode cX8_takeOver 42 = .ok (.iconst 0, 1) := by decide +kernel
theorem dX8_takeOver_43 : decode cX8_takeOver 43 = .ok (.aload_n 0, 1) := by decide +kernel
theorem dX8_takeOver_44 : decode cX8_takeOver 44 = .ok (.getfield 18, 3) := by decide +kernel
theorem dX8_takeOver_47 : decode cX8_takeOver 47 = .ok (.iconst 0, 1) := by decide +kernel
theorem dX8_takeOver_48 : decode cX8_takeOver 48 = .ok (.bipush 6, 2) := by decide +kernel
theorem dX8_takeOver_50 : decode cX8_takeOver 50 = .ok (.invokestatic 25, 3) := by decide +kernel
theorem dX8_takeOver_53 : decode cX8_takeOver 53 = .ok (.return_, 1) := by decide +kernel
theorem dX8_ownedBy_0 : decode cX8_ownedBy 0 = .ok (.iconst 0, 1) := by decide +kernel
theorem dX8_ownedBy_1 : decode cX8_ownedBy 1 = .ok (.istore_n 2, 1) := by decide +kernel
theorem dX8_ownedBy_2 : decode cX8_ownedBy 2 = .ok (.iconst 0, 1) := by decide +kernel
theorem dX8_ownedBy_3 : decode cX8_ownedBy 3 = .ok (.istore_n 3, 1) := by decide +kernel
theorem dX8_ownedBy_4 : decode cX8_ownedBy 4 = .ok (.iload_n 3, 1) := by decide +kernel
theorem dX8_ownedBy_5 : decode cX8_ownedBy 5 = .ok (.aload_n 0, 1) := by decide +kernel
theorem dX8_ownedBy_6 : decode cX8_ownedBy 6 = .ok (.getfield 21, 3) := by decide +kernel
theorem dX8_ownedBy_9 : decode cX8_ownedBy 9 = .ok (.if_icmp .ge 25, 3) := by decide +kernel
theorem dX8_ownedBy_12 : decode cX8_ownedBy 12 = .ok (.aload_n 0, 1) := by decide +kernel
theorem dX8_ownedBy_13 : decode cX8_ownedBy 13 = .ok (.getfield 11, 3) := by decide +kernel
theorem dX8_ownedBy_16 : decode cX8_ownedBy 16 = .ok (.iload_n 3, 1) := by decide +kernel
theorem dX8_ownedBy_17 : decode cX8_ownedBy 17 = .ok (.iaload, 1) := by decide +kernel
theorem dX8_ownedBy_18 : decode cX8_ownedBy 18 = .ok (.iload_n 1, 1) := by decide +kernel
theorem dX8_ownedBy_19 : decode cX8_ownedBy 19 = .ok (.if_icmp .ne 9, 3) := by decide +kernel
theorem dX8_ownedBy_22 : decode cX8_ownedBy 22 = .ok (.iload_n 2, 1) := by decide +kernel
theorem dX8_ownedBy_23 : decode cX8_ownedBy 23 = .ok (.iconst 1, 1) := by decide +kernel
theorem dX8_ownedBy_24 : decode cX8_ownedBy 24 = .ok (.iload_n 3, 1) := by decide +kernel
theorem dX8_ownedBy_25 : decode cX8_ownedBy 25 = .ok (.ishl, 1) := by decide +kernel
theorem dX8_ownedBy_26 : decode cX8_ownedBy 26 = .ok (.ior, 1) := by decide +kernel
theorem dX8_ownedBy_27 : decode cX8_ownedBy 27 = .ok (.istore_n 2, 1) := by decide +kernel
theorem dX8_ownedBy_28 : decode cX8_ownedBy 28 = .ok (.iinc 3 1, 3) := by decide +kernel
theorem dX8_ownedBy_31 : decode cX8_ownedBy 31 = .ok (.goto (-27), 3) := by decide +kernel
theorem dX8_ownedBy_34 : decode cX8_ownedBy 34 = .ok (.iload_n 2, 1) := by decide +kernel
theorem dX8_ownedBy_35 : decode cX8_ownedBy 35 = .ok (.ireturn, 1) := by decide +kernel
theorem dX8_onDay_0 : decode cX8_onDay 0 = .ok (.aload_n 0, 1) := by decide +kernel
theorem dX8_onDay_1 : decode cX8_onDay 1 = .ok (.iload_n 1, 1) := by decide +kernel
theorem dX8_onDay_2 : decode cX8_onDay 2 = .ok (.invokevirtual 31, 3) := by decide +kernel
theorem dX8_onDay_5 : decode cX8_onDay 5 = .ok (.istore_n 3, 1) := by decide +kernel
theorem dX8_onDay_6 : decode cX8_onDay 6 = .ok (.iconst 0, 1) := by decide +kernel
theorem dX8_onDay_7 : decode cX8_onDay 7 = .ok (.istore 4, 2) := by decide +kernel
theorem dX8_onDay_9 : decode cX8_onDay 9 = .ok (.iload 4, 2) := by decide +kernel
theorem dX8_onDay_11 : decode cX8_onDay 11 = .ok (.aload_n 0, 1) := by decide +kernel
theorem dX8_onDay_12 : decode cX8_onDay 12 = .ok (.getfield 21, 3) := by decide +kernel
theorem dX8_onDay_15 : decode cX8_onDay 15 = .ok (.if_icmp .ge 29, 3) := by decide +kernel
theorem dX8_onDay_18 : decode cX8_onDay 18 = .ok (.aload_n 0, 1) := by decide +kernel
theorem dX8_onDay_19 : decode cX8_onDay 19 = .ok (.getfield 15, 3) := by decide +kernel
theorem dX8_onDay_22 : decode cX8_onDay 22 = .ok (.iload 4, 2) := by decide +kernel
theorem dX8_onDay_24 : decode cX8_onDay 24 = .ok (.iaload, 1) := by decide +kernel
theorem dX8_onDay_25 : decode cX8_onDay 25 = .ok (.iload_n 2, 1) := by decide +kernel
theorem dX8_onDay_26 : decode cX8_onDay 26 = .ok (.if_icmp .eq 12, 3) := by decide +kernel
theorem dX8_onDay_29 : decode cX8_onDay 29 = .ok (.iload_n 3, 1) := by decide +kernel
theorem dX8_onDay_30 : decode cX8_onDay 30 = .ok (.iconst 1, 1) := by decide +kernel
theorem dX8_onDay_31 : decode cX8_onDay 31 = .ok (.iload 4, 2) := by decide +kernel
theorem dX8_onDay_33 : decode cX8_onDay 33 = .ok (.ishl, 1) := by decide +kernel
theorem dX8_onDay_34 : decode cX8_onDay 34 = .ok (.iconst (-1), 1) := by decide +kernel
theorem dX8_onDay_35 : decode cX8_onDay 35 = .ok (.ixor, 1) := by decide +kernel
theorem dX8_onDay_36 : decode cX8_onDay 36 = .ok (.iand, 1) := by decide +kernel
theorem dX8_onDay_37 : decode cX8_onDay 37 = .ok (.istore_n 3, 1) := by decide +kernel
theorem dX8_onDay_38 : decode cX8_onDay 38 = .ok (.iinc 4 1, 3) := by decide +kernel
theorem dX8_onDay_41 : decode cX8_onDay 41 = .ok (.goto (-32), 3) := by decide +kernel
theorem dX8_onDay_44 : decode cX8_onDay 44 = .ok (.iload_n 3, 1) := by decide +kernel
theorem dX8_onDay_45 : decode cX8_onDay 45 = .ok (.ireturn, 1) := by decide +kernel
theorem dX8_lowest_0 : decode cX8_lowest 0 = .ok (.iconst 0, 1) := by decide +kernel
theorem dX8_lowest_1 : decode cX8_lowest 1 = .ok (.istore_n 3, 1) := by decide +kernel
theorem dX8_lowest_2 : decode cX8_lowest 2 = .ok (.iconst 0, 1) := by decide +kernel
theorem dX8_lowest_3 : decode cX8_lowest 3 = .ok (.istore 4, 2) := by decide +kernel
theorem dX8_lowest_5 : decode cX8_lowest 5 = .ok (.iload 4, 2) := by decide +kernel
theorem dX8_lowest_7 : decode cX8_lowest 7 = .ok (.aload_n 0, 1) := by decide +kernel
theorem dX8_lowest_8 : decode cX8_lowest 8 = .ok (.getfield 21, 3) := by decide +kernel
theorem dX8_lowest_11 : decode cX8_lowest 11 = .ok (.if_icmp .ge 33, 3) := by decide +kernel
theorem dX8_lowest_14 : decode cX8_lowest 14 = .ok (.iload_n 1, 1) := by decide +kernel
theorem dX8_lowest_15 : decode cX8_lowest 15 = .ok (.iload 4, 2) := by decide +kernel
theorem dX8_lowest_17 : decode cX8_lowest 17 = .ok (.ishr, 1) := by decide +kernel
theorem dX8_lowest_18 : decode cX8_lowest 18 = .ok (.iconst 1, 1) := by decide +kernel
theorem dX8_lowest_19 : decode cX8_lowest 19 = .ok (.iand, 1) := by decide +kernel
theorem dX8_lowest_20 : decode cX8_lowest 20 = .ok (.iconst 1, 1) := by decide +kernel
theorem dX8_lowest_21 : decode cX8_lowest 21 = .ok (.if_icmp .ne 17, 3) := by decide +kernel
theorem dX8_lowest_24 : decode cX8_lowest 24 = .ok (.iload_n 3, 1) := by decide +kernel
theorem dX8_lowest_25 : decode cX8_lowest 25 = .ok (.aload_n 0, 1) := by decide +kernel
theorem dX8_lowest_26 : decode cX8_lowest 26 = .ok (.getfield 18, 3) := by decide +kernel
theorem dX8_lowest_29 : decode cX8_lowest 29 = .ok (.iload 4, 2) := by decide +kernel
theorem dX8_lowest_31 : decode cX8_lowest 31 = .ok (.iaload, 1) := by decide +kernel
theorem dX8_lowest_32 : decode cX8_lowest 32 = .ok (.iload_n 2, 1) := by decide +kernel
theorem dX8_lowest_33 : decode cX8_lowest 33 = .ok (.isub, 1) := by decide +kernel
theorem dX8_lowest_34 : decode cX8_lowest 34 = .ok (.invokestatic 35, 3) := by decide +kernel
theorem dX8_lowest_37 : decode cX8_lowest 37 = .ok (.istore_n 3, 1) := by decide +kernel
theorem dX8_lowest_38 : decode cX8_lowest 38 = .ok (.iinc 4 1, 3) := by decide +kernel
theorem dX8_lowest_41 : decode cX8_lowest 41 = .ok (.goto (-36), 3) := by decide +kernel
theorem dX8_lowest_44 : decode cX8_lowest 44 = .ok (.iload_n 3, 1) := by decide +kernel
theorem dX8_lowest_45 : decode cX8_lowest 45 = .ok (.ireturn, 1) := by decide +kernel
theorem dX8_highest_0 : decode cX8_highest 0 = .ok (.bipush 99, 2) := by decide +kernel
theorem dX8_highest_2 : decode cX8_highest 2 = .ok (.istore_n 3, 1) := by decide +kernel
theorem dX8_highest_3 : decode cX8_highest 3 = .ok (.iconst 0, 1) := by decide +kernel
theorem dX8_highest_4 : decode cX8_highest 4 = .ok (.istore 4, 2) := by decide +kernel
theorem dX8_highest_6 : decode cX8_highest 6 = .ok (.iload 4, 2) := by decide +kernel
theorem dX8_highest_8 : decode cX8_highest 8 = .ok (.aload_n 0, 1) := by decide +kernel
theorem dX8_highest_9 : decode cX8_highest 9 = .ok (.getfield 21, 3) := by decide +kernel
theorem dX8_highest_12 : decode cX8_highest 12 = .ok (.if_icmp .ge 33, 3) := by decide +kernel
theorem dX8_highest_15 : decode cX8_highest 15 = .ok (.iload_n 1, 1) := by decide +kernel
theorem dX8_highest_16 : decode cX8_highest 16 = .ok (.iload 4, 2) := by decide +kernel
theorem dX8_highest_18 : decode cX8_highest 18 = .ok (.ishr, 1) := by decide +kernel
theorem dX8_highest_19 : decode cX8_highest 19 = .ok (.iconst 1, 1) := by decide +kernel
theorem dX8_highest_20 : decode cX8_highest 20 = .ok (.iand, 1) := by decide +kernel
theorem dX8_highest_21 : decode cX8_highest 21 = .ok (.iconst 1, 1) := by decide +kernel
theorem dX8_highest_22 : decode cX8_highest 22 = .ok (.if_icmp .ne 17, 3) := by decide +kernel
theorem dX8_highest_25 : decode cX8_highest 25 = .ok (.iload_n 3, 1) := by decide +kernel
theorem dX8_highest_26 : decode cX8_highest 26 = .ok (.aload_n 0, 1) := by decide +kernel
theorem dX8_highest_27 : decode cX8_highest 27 = .ok (.getfield 18, 3) := by decide +kernel
theorem dX8_highest_30 : decode cX8_highest 30 = .ok (.iload 4, 2) := by decide +kernel
theorem dX8_highest_32 : decode cX8_highest 32 = .ok (.iaload, 1) := by decide +kernel
theorem dX8_highest_33 : decode cX8_highest 33 = .ok (.iload_n 2, 1) := by decide +kernel
theorem dX8_highest_34 : decode cX8_highest 34 = .ok (.iadd, 1) := by decide +kernel
theorem dX8_highest_35 : decode cX8_highest 35 = .ok (.invokestatic 41, 3) := by decide +kernel
theorem dX8_highest_38 : decode cX8_highest 38 = .ok (.istore_n 3, 1) := by decide +kernel
theorem dX8_highest_39 : decode cX8_highest 39 = .ok (.iinc 4 1, 3) := by decide +kernel
theorem dX8_highest_42 : decode cX8_highest 42 = .ok (.goto (-36), 3) := by decide +kernel
theorem dX8_highest_45 : decode cX8_highest 45 = .ok (.iload_n 3, 1) := by decide +kernel
theorem dX8_highest_46 : decode cX8_highest 46 = .ok (.ireturn, 1) := by decide +kernel
theorem dX8_placesFor_0 : decode cX8_placesFor 0 = .ok (.iconst 0, 1) := by decide +kernel
theorem dX8_placesFor_1 : decode cX8_placesFor 1 = .ok (.aload_n 0, 1) := by decide +kernel
theorem dX8_placesFor_2 : decode cX8_placesFor 2 = .ok (.iload_n 1, 1) := by decide +kernel
theorem dX8_placesFor_3 : decode cX8_placesFor 3 = .ok (.iload_n 2, 1) := by decide +kernel
theorem dX8_placesFor_4 : decode cX8_placesFor 4 = .ok (.invokevirtual 44, 3) := by decide +kernel
theorem dX8_placesFor_7 : decode cX8_placesFor 7 = .ok (.aload_n 0, 1) := by decide +kernel
theorem dX8_placesFor_8 : decode cX8_placesFor 8 = .ok (.iload_n 1, 1) := by decide +kernel
theorem dX8_placesFor_9 : decode cX8_placesFor 9 = .ok (.iload_n 2, 1) := by decide +kernel
theorem dX8_placesFor_10 : decode cX8_placesFor 10 = .ok (.invokevirtual 47, 3) := by decide +kernel
theorem dX8_placesFor_13 : decode cX8_placesFor 13 = .ok (.isub, 1) := by decide +kernel
theorem dX8_placesFor_14 : decode cX8_placesFor 14 = .ok (.iconst 1, 1) := by decide +kernel
theorem dX8_placesFor_15 : decode cX8_placesFor 15 = .ok (.iadd, 1) := by decide +kernel
theorem dX8_placesFor_16 : decode cX8_placesFor 16 = .ok (.invokestatic 35, 3) := by decide +kernel
theorem dX8_placesFor_19 : decode cX8_placesFor 19 = .ok (.ireturn, 1) := by decide +kernel
theorem dX8_nextPlace_0 : decode cX8_nextPlace 0 = .ok (.aload_n 0, 1) := by decide +kernel
theorem dX8_nextPlace_1 : decode cX8_nextPlace 1 = .ok (.iload_n 1, 1) := by decide +kernel
theorem dX8_nextPlace_2 : decode cX8_nextPlace 2 = .ok (.iload_n 2, 1) := by decide +kernel
theorem dX8_nextPlace_3 : decode cX8_nextPlace 3 = .ok (.invokevirtual 47, 3) := by decide +kernel
theorem dX8_nextPlace_6 : decode cX8_nextPlace 6 = .ok (.istore_n 3, 1) := by decide +kernel
theorem dX8_nextPlace_7 : decode cX8_nextPlace 7 = .ok (.aload_n 0, 1) := by decide +kernel
theorem dX8_nextPlace_8 : decode cX8_nextPlace 8 = .ok (.iload_n 1, 1) := by decide +kernel
theorem dX8_nextPlace_9 : decode cX8_nextPlace 9 = .ok (.iload_n 2, 1) := by decide +kernel
theorem dX8_nextPlace_10 : decode cX8_nextPlace 10 = .ok (.invokevirtual 44, 3) := by decide +kernel
theorem dX8_nextPlace_13 : decode cX8_nextPlace 13 = .ok (.istore 4, 2) := by decide +kernel
theorem dX8_nextPlace_15 : decode cX8_nextPlace 15 = .ok (.aload_n 0, 1) := by decide +kernel
theorem dX8_nextPlace_16 : decode cX8_nextPlace 16 = .ok (.iload_n 1, 1) := by decide +kernel
theorem dX8_nextPlace_17 : decode cX8_nextPlace 17 = .ok (.iload_n 2, 1) := by decide +kernel
theorem dX8_nextPlace_18 : decode cX8_nextPlace 18 = .ok (.invokevirtual 50, 3) := by decide +kernel
theorem dX8_nextPlace_21 : decode cX8_nextPlace 21 = .ok (.istore 5, 2) := by decide +kernel
theorem dX8_nextPlace_23 : decode cX8_nextPlace 23 = .ok (.iconst (-1), 1) := by decide +kernel
theorem dX8_nextPlace_24 : decode cX8_nextPlace 24 = .ok (.istore 6, 2) := by decide +kernel
theorem dX8_nextPlace_26 : decode cX8_nextPlace 26 = .ok (.iload 5, 2) := by decide +kernel
theorem dX8_nextPlace_28 : decode cX8_nextPlace 28 = .ok (.istore 7, 2) := by decide +kernel
theorem dX8_nextPlace_30 : decode cX8_nextPlace 30 = .ok (.iconst 0, 1) := by decide +kernel
theorem dX8_nextPlace_31 : decode cX8_nextPlace 31 = .ok (.istore 8, 2) := by decide +kernel
theorem dX8_nextPlace_33 : decode cX8_nextPlace 33 = .ok (.iload 8, 2) := by decide +kernel
theorem dX8_nextPlace_35 : decode cX8_nextPlace 35 = .ok (.bipush 99, 2) := by decide +kernel
theorem dX8_nextPlace_37 : decode cX8_nextPlace 37 = .ok (.if_icmp .gt 73, 3) := by decide +kernel
theorem dX8_nextPlace_40 : decode cX8_nextPlace 40 = .ok (.iload 5, 2) := by decide +kernel
theorem dX8_nextPlace_42 : decode cX8_nextPlace 42 = .ok (.ifCond .le 68, 3) := by decide +kernel
theorem dX8_nextPlace_45 : decode cX8_nextPlace 45 = .ok (.iconst 0, 1) := by decide +kernel
theorem dX8_nextPlace_46 : decode cX8_nextPlace 46 = .ok (.iload 4, 2) := by decide +kernel
theorem dX8_nextPlace_48 : decode cX8_nextPlace 48 = .ok (.iload 8, 2) := by decide +kernel
theorem dX8_nextPlace_50 : decode cX8_nextPlace 50 = .ok (.iload_n 2, 1) := by decide +kernel
theorem dX8_nextPlace_51 : decode cX8_nextPlace 51 = .ok (.iadd, 1) := by decide +kernel
theorem dX8_nextPlace_52 : decode cX8_nextPlace 52 = .ok (.invokestatic 41, 3) := by decide +kernel
theorem dX8_nextPlace_55 : decode cX8_nextPlace 55 = .ok (.iload_n 3, 1) := by decide +kernel
theorem dX8_nextPlace_56 : decode cX8_nextPlace 56 = .ok (.iload 8, 2) := by decide +kernel
theorem dX8_nextPlace_58 : decode cX8_nextPlace 58 = .ok (.iload_n 2, 1) := by decide +kernel
theorem dX8_nextPlace_59 : decode cX8_nextPlace 59 = .ok (.isub, 1) := by decide +kernel
theorem dX8_nextPlace_60 : decode cX8_nextPlace 60 = .ok (.invokestatic 35, 3) := by decide +kernel
theorem dX8_nextPlace_63 : decode cX8_nextPlace 63 = .ok (.isub, 1) := by decide +kernel
theorem dX8_nextPlace_64 : decode cX8_nextPlace 64 = .ok (.iconst 1, 1) := by decide +kernel
theorem dX8_nextPlace_65 : decode cX8_nextPlace 65 = .ok (.iadd, 1) := by decide +kernel
theorem dX8_nextPlace_66 : decode cX8_nextPlace 66 = .ok (.invokestatic 35, 3) := by decide +kernel
theorem dX8_nextPlace_69 : decode cX8_nextPlace 69 = .ok (.istore 9, 2) := by decide +kernel
theorem dX8_nextPlace_71 : decode cX8_nextPlace 71 = .ok (.iload 9, 2) := by decide +kernel
theorem dX8_nextPlace_73 : decode cX8_nextPlace 73 = .ok (.iload 5, 2) := by decide +kernel
theorem dX8_nextPlace_75 : decode cX8_nextPlace 75 = .ok (.iload 9, 2) := by decide +kernel
theorem dX8_nextPlace_77 : decode cX8_nextPlace 77 = .ok (.isub, 1) := by decide +kernel
theorem dX8_nextPlace_78 : decode cX8_nextPlace 78 = .ok (.invokestatic 35, 3) := by decide +kernel
theorem dX8_nextPlace_81 : decode cX8_nextPlace 81 = .ok (.istore 10, 2) := by decide +kernel
theorem dX8_nextPlace_83 : decode cX8_nextPlace 83 = .ok (.iload 6, 2) := by decide +kernel
theorem dX8_nextPlace_85 : decode cX8_nextPlace 85 = .ok (.iconst (-1), 1) := by decide +kernel
theorem dX8_nextPlace_86 : decode cX8_nextPlace 86 = .ok (.if_icmp .eq 10, 3) := by decide +kernel
theorem dX8_nextPlace_89 : decode cX8_nextPlace 89 = .ok (.iload 10, 2) := by decide +kernel
theorem dX8_nextPlace_91 : decode cX8_nextPlace 91 = .ok (.iload 7, 2) := by decide +kernel
theorem dX8_nextPlace_93 : decode cX8_nextPlace 93 = .ok (.if_icmp .ge 11, 3) := by decide +kernel
theorem dX8_nextPlace_96 : decode cX8_nextPlace 96 = .ok (.iload 8, 2) := by decide +kernel
theorem dX8_nextPlace_98 : decode cX8_nextPlace 98 = .ok (.istore 6, 2) := by decide +kernel
theorem dX8_nextPlace_100 : decode cX8_nextPlace 100 = .ok (.iload 10, 2) := by decide +kernel
theorem dX8_nextPlace_102 : decode cX8_nextPlace 102 = .ok (.istore 7, 2) := by decide +kernel
theorem dX8_nextPlace_104 : decode cX8_nextPlace 104 = .ok (.iinc 8 1, 3) := by decide +kernel
theorem dX8_nextPlace_107 : decode cX8_nextPlace 107 = .ok (.goto (-74), 3) := by decide +kernel
theorem dX8_nextPlace_110 : decode cX8_nextPlace 110 = .ok (.iload 6, 2) := by decide +kernel
theorem dX8_nextPlace_112 : decode cX8_nextPlace 112 = .ok (.ireturn, 1) := by decide +kernel
theorem dX8_fewestFalse_0 : decode cX8_fewestFalse 0 = .ok (.aload_n 0, 1) := by decide +kernel
theorem dX8_fewestFalse_1 : decode cX8_fewestFalse 1 = .ok (.iload_n 1, 1) := by decide +kernel
theorem dX8_fewestFalse_2 : decode cX8_fewestFalse 2 = .ok (.invokevirtual 31, 3) := by decide +kernel
theorem dX8_fewestFalse_5 : decode cX8_fewestFalse 5 = .ok (.istore_n 3, 1) := by decide +kernel
theorem dX8_fewestFalse_6 : decode cX8_fewestFalse 6 = .ok (.iload_n 3, 1) := by decide +kernel
theorem dX8_fewestFalse_7 : decode cX8_fewestFalse 7 = .ok (.istore 4, 2) := by decide +kernel
theorem dX8_fewestFalse_9 : decode cX8_fewestFalse 9 = .ok (.iconst 0, 1) := by decide +kernel
theorem dX8_fewestFalse_10 : decode cX8_fewestFalse 10 = .ok (.istore 5, 2) := by decide +kernel
theorem dX8_fewestFalse_12 : decode cX8_fewestFalse 12 = .ok (.iload 5, 2) := by decide +kernel
theorem dX8_fewestFalse_14 : decode cX8_fewestFalse 14 = .ok (.iload_n 3, 1) := by decide +kernel
theorem dX8_fewestFalse_15 : decode cX8_fewestFalse 15 = .ok (.if_icmp .ge 61, 3) := by decide +kernel
theorem dX8_fewestFalse_18 : decode cX8_fewestFalse 18 = .ok (.iload 5, 2) := by decide +kernel
theorem dX8_fewestFalse_20 : decode cX8_fewestFalse 20 = .ok (.iload_n 3, 1) := by decide +kernel
theorem dX8_fewestFalse_21 : decode cX8_fewestFalse 21 = .ok (.iconst (-1), 1) := by decide +kernel
theorem dX8_fewestFalse_22 : decode cX8_fewestFalse 22 = .ok (.ixor, 1) := by decide +kernel
theorem dX8_fewestFalse_23 : decode cX8_fewestFalse 23 = .ok (.iand, 1) := by decide +kernel
theorem dX8_fewestFalse_24 : decode cX8_fewestFalse 24 = .ok (.ifCond .ne 20, 3) := by decide +kernel
theorem dX8_fewestFalse_27 : decode cX8_fewestFalse 27 = .ok (.iload 5, 2) := by decide +kernel
theorem dX8_fewestFalse_29 : decode cX8_fewestFalse 29 = .ok (.invokestatic 53, 3) := by decide +kernel
theorem dX8_fewestFalse_32 : decode cX8_fewestFalse 32 = .ok (.iload 4, 2) := by decide +kernel
theorem dX8_fewestFalse_34 : decode cX8_fewestFalse 34 = .ok (.invokestatic 53, 3) := by decide +kernel
theorem dX8_fewestFalse_37 : decode cX8_fewestFalse 37 = .ok (.if_icmp .ge 7, 3) := by decide +kernel
theorem dX8_fewestFalse_40 : decode cX8_fewestFalse 40 = .ok (.iconst 1, 1) := by decide +kernel
theorem dX8_fewestFalse_41 : decode cX8_fewestFalse 41 = .ok (.goto 4, 3) := by decide +kernel
theorem dX8_fewestFalse_44 : decode cX8_fewestFalse 44 = .ok (.iconst 0, 1) := by decide +kernel
theorem dX8_fewestFalse_45 : decode cX8_fewestFalse 45 = .ok (.istore 6, 2) := by decide +kernel
theorem dX8_fewestFalse_47 : decode cX8_fewestFalse 47 = .ok (.iload 6, 2) := by decide +kernel
theorem dX8_fewestFalse_49 : decode cX8_fewestFalse 49 = .ok (.ifCond .eq 21, 3) := by decide +kernel
theorem dX8_fewestFalse_52 : decode cX8_fewestFalse 52 = .ok (.aload_n 0, 1) := by decide +kernel
theorem dX8_fewestFalse_53 : decode cX8_fewestFalse 53 = .ok (.iload_n 3, 1) := by decide +kernel
theorem dX8_fewestFalse_54 : decode cX8_fewestFalse 54 = .ok (.iload 5, 2) := by decide +kernel
theorem dX8_fewestFalse_56 : decode cX8_fewestFalse 56 = .ok (.iconst (-1), 1) := by decide +kernel
theorem dX8_fewestFalse_57 : decode cX8_fewestFalse 57 = .ok (.ixor, 1) := by decide +kernel
theorem dX8_fewestFalse_58 : decode cX8_fewestFalse 58 = .ok (.iand, 1) := by decide +kernel
theorem dX8_fewestFalse_59 : decode cX8_fewestFalse 59 = .ok (.aload_n 2, 1) := by decide +kernel
theorem dX8_fewestFalse_60 : decode cX8_fewestFalse 60 = .ok (.invokevirtual 58, 3) := by decide +kernel
theorem dX8_fewestFalse_63 : decode cX8_fewestFalse 63 = .ok (.ifCond .eq 7, 3) := by decide +kernel
theorem dX8_fewestFalse_66 : decode cX8_fewestFalse 66 = .ok (.iload 5, 2) := by decide +kernel
theorem dX8_fewestFalse_68 : decode cX8_fewestFalse 68 = .ok (.istore 4, 2) := by decide +kernel
theorem dX8_fewestFalse_70 : decode cX8_fewestFalse 70 = .ok (.iinc 5 1, 3) := by decide +kernel
theorem dX8_fewestFalse_73 : decode cX8_fewestFalse 73 = .ok (.goto (-61), 3) := by decide +kernel
theorem dX8_fewestFalse_76 : decode cX8_fewestFalse 76 = .ok (.iload 4, 2) := by decide +kernel
theorem dX8_fewestFalse_78 : decode cX8_fewestFalse 78 = .ok (.ireturn, 1) := by decide +kernel
theorem dX8_canBeTrue_0 : decode cX8_canBeTrue 0 = .ok (.iconst 0, 1) := by decide +kernel
theorem dX8_canBeTrue_1 : decode cX8_canBeTrue 1 = .ok (.istore_n 3, 1) := by decide +kernel
theorem dX8_canBeTrue_2 : decode cX8_canBeTrue 2 = .ok (.iload_n 3, 1) := by decide +kernel
theorem dX8_canBeTrue_3 : decode cX8_canBeTrue 3 = .ok (.aload_n 0, 1) := by decide +kernel
theorem dX8_canBeTrue_4 : decode cX8_canBeTrue 4 = .ok (.getfield 21, 3) := by decide +kernel
theorem dX8_canBeTrue_7 : decode cX8_canBeTrue 7 = .ok (.if_icmp .ge 83, 3) := by decide +kernel
theorem dX8_canBeTrue_10 : decode cX8_canBeTrue 10 = .ok (.iload_n 1, 1) := by decide +kernel
theorem dX8_canBeTrue_11 : decode cX8_canBeTrue 11 = .ok (.iload_n 3, 1) := by decide +kernel
theorem dX8_canBeTrue_12 : decode cX8_canBeTrue 12 = .ok (.ishr, 1) := by decide +kernel
theorem dX8_canBeTrue_13 : decode cX8_canBeTrue 13 = .ok (.iconst 1, 1) := by decide +kernel
theorem dX8_canBeTrue_14 : decode cX8_canBeTrue 14 = .ok (.iand, 1) := by decide +kernel
theorem dX8_canBeTrue_15 : decode cX8_canBeTrue 15 = .ok (.iconst 1, 1) := by decide +kernel
theorem dX8_canBeTrue_16 : decode cX8_canBeTrue 16 = .ok (.if_icmp .ne 68, 3) := by decide +kernel
theorem dX8_canBeTrue_19 : decode cX8_canBeTrue 19 = .ok (.iload_n 1, 1) := by decide +kernel
theorem dX8_canBeTrue_20 : decode cX8_canBeTrue 20 = .ok (.aload_n 0, 1) := by decide +kernel
theorem dX8_canBeTrue_21 : decode cX8_canBeTrue 21 = .ok (.aload_n 0, 1) := by decide +kernel
theorem dX8_canBeTrue_22 : decode cX8_canBeTrue 22 = .ok (.getfield 11, 3) := by decide +kernel
theorem dX8_canBeTrue_25 : decode cX8_canBeTrue 25 = .ok (.iload_n 3, 1) := by decide +kernel
theorem dX8_canBeTrue_26 : decode cX8_canBeTrue 26 = .ok (.iaload, 1) := by decide +kernel
theorem dX8_canBeTrue_27 : decode cX8_canBeTrue 27 = .ok (.aload_n 0, 1) := by decide +kernel
theorem dX8_canBeTrue_28 : decode cX8_canBeTrue 28 = .ok (.getfield 15, 3) := by decide +kernel
theorem dX8_canBeTrue_31 : decode cX8_canBeTrue 31 = .ok (.iload_n 3, 1) := by decide +kernel
theorem dX8_canBeTrue_32 : decode cX8_canBeTrue 32 = .ok (.iaload, 1) := by decide +kernel
theorem dX8_canBeTrue_33 : decode cX8_canBeTrue 33 = .ok (.invokevirtual 62, 3) := by decide +kernel
theorem dX8_canBeTrue_36 : decode cX8_canBeTrue 36 = .ok (.iand, 1) := by decide +kernel
theorem dX8_canBeTrue_37 : decode cX8_canBeTrue 37 = .ok (.istore 4, 2) := by decide +kernel
theorem dX8_canBeTrue_39 : decode cX8_canBeTrue 39 = .ok (.iload 4, 2) := by decide +kernel
theorem dX8_canBeTrue_41 : decode cX8_canBeTrue 41 = .ok (.invokestatic 53, 3) := by decide +kernel
theorem dX8_canBeTrue_44 : decode cX8_canBeTrue 44 = .ok (.aload_n 2, 1) := by decide +kernel
theorem dX8_canBeTrue_45 : decode cX8_canBeTrue 45 = .ok (.aload_n 0, 1) := by decide +kernel
theorem dX8_canBeTrue_46 : decode cX8_canBeTrue 46 = .ok (.getfield 15, 3) := by decide +kernel
theorem dX8_canBeTrue_49 : decode cX8_canBeTrue 49 = .ok (.iload_n 3, 1) := by decide +kernel
theorem dX8_canBeTrue_50 : decode cX8_canBeTrue 50 = .ok (.iaload, 1) := by decide +kernel
theorem dX8_canBeTrue_51 : decode cX8_canBeTrue 51 = .ok (.invokevirtual 65, 3) := by decide +kernel
theorem dX8_canBeTrue_54 : decode cX8_canBeTrue 54 = .ok (.if_icmp .le 7, 3) := by decide +kernel
theorem dX8_canBeTrue_57 : decode cX8_canBeTrue 57 = .ok (.iconst 1, 1) := by decide +kernel
theorem dX8_canBeTrue_58 : decode cX8_canBeTrue 58 = .ok (.goto 4, 3) := by decide +kernel
theorem dX8_canBeTrue_61 : decode cX8_canBeTrue 61 = .ok (.iconst 0, 1) := by decide +kernel
theorem dX8_canBeTrue_62 : decode cX8_canBeTrue 62 = .ok (.istore 5, 2) := by decide +kernel
theorem dX8_canBeTrue_64 : decode cX8_canBeTrue 64 = .ok (.iload 5, 2) := by decide +kernel
theorem dX8_canBeTrue_66 : decode cX8_canBeTrue 66 = .ok (.ifCond .ne 16, 3) := by decide +kernel
theorem dX8_canBeTrue_69 : decode cX8_canBeTrue 69 = .ok (.aload_n 0, 1) := by decide +kernel
theorem dX8_canBeTrue_70 : decode cX8_canBeTrue 70 = .ok (.iload 4, 2) := by decide +kernel
theorem dX8_canBeTrue_72 : decode cX8_canBeTrue 72 = .ok (.aload_n 2, 1) := by decide +kernel
theorem dX8_canBeTrue_73 : decode cX8_canBeTrue 73 = .ok (.invokevirtual 70, 3) := by decide +kernel
theorem dX8_canBeTrue_76 : decode cX8_canBeTrue 76 = .ok (.invokevirtual 50, 3) := by decide +kernel
theorem dX8_canBeTrue_79 : decode cX8_canBeTrue 79 = .ok (.ifCond .ne 5, 3) := by decide +kernel
theorem dX8_canBeTrue_82 : decode cX8_canBeTrue 82 = .ok (.iconst 0, 1) := by decide +kernel
theorem dX8_canBeTrue_83 : decode cX8_canBeTrue 83 = .ok (.ireturn, 1) := by decide +kernel
theorem dX8_canBeTrue_84 : decode cX8_canBeTrue 84 = .ok (.iinc 3 1, 3) := by decide +kernel
theorem dX8_canBeTrue_87 : decode cX8_canBeTrue 87 = .ok (.goto (-85), 3) := by decide +kernel
theorem dX8_canBeTrue_90 : decode cX8_canBeTrue 90 = .ok (.iconst 1, 1) := by decide +kernel
theorem dX8_canBeTrue_91 : decode cX8_canBeTrue 91 = .ok (.ireturn, 1) := by decide +kernel
theorem dX8_kindsNoted_0 : decode cX8_kindsNoted 0 = .ok (.iconst 0, 1) := by decide +kernel
theorem dX8_kindsNoted_1 : decode cX8_kindsNoted 1 = .ok (.istore_n 3, 1) := by decide +kernel
theorem dX8_kindsNoted_2 : decode cX8_kindsNoted 2 = .ok (.iconst 0, 1) := by decide +kernel
theorem dX8_kindsNoted_3 : decode cX8_kindsNoted 3 = .ok (.istore 4, 2) := by decide +kernel
theorem dX8_kindsNoted_5 : decode cX8_kindsNoted 5 = .ok (.iload 4, 2) := by decide +kernel
theorem dX8_kindsNoted_7 : decode cX8_kindsNoted 7 = .ok (.aload_n 2, 1) := by decide +kernel
theorem dX8_kindsNoted_8 : decode cX8_kindsNoted 8 = .ok (.arraylength, 1) := by decide +kernel
theorem dX8_kindsNoted_9 : decode cX8_kindsNoted 9 = .ok (.if_icmp .ge 28, 3) := by decide +kernel
theorem dX8_kindsNoted_12 : decode cX8_kindsNoted 12 = .ok (.aload_n 0, 1) := by decide +kernel
theorem dX8_kindsNoted_13 : decode cX8_kindsNoted 13 = .ok (.iload_n 1, 1) := by decide +kernel
theorem dX8_kindsNoted_14 : decode cX8_kindsNoted 14 = .ok (.aload_n 2, 1) := by decide +kernel
theorem dX8_kindsNoted_15 : decode cX8_kindsNoted 15 = .ok (.iload 4, 2) := by decide +kernel
theorem dX8_kindsNoted_17 : decode cX8_kindsNoted 17 = .ok (.aaload, 1) := by decide +kernel
theorem dX8_kindsNoted_18 : decode cX8_kindsNoted 18 = .ok (.invokevirtual 74, 3) := by decide +kernel
theorem dX8_kindsNoted_21 : decode cX8_kindsNoted 21 = .ok (.ifCond .eq 10, 3) := by decide +kernel
theorem dX8_kindsNoted_24 : decode cX8_kindsNoted 24 = .ok (.iload_n 3, 1) := by decide +kernel
theorem dX8_kindsNoted_25 : decode cX8_kindsNoted 25 = .ok (.iconst 1, 1) := by decide +kernel
theorem dX8_kindsNoted_26 : decode cX8_kindsNoted 26 = .ok (.iload 4, 2) := by decide +kernel
theorem dX8_kindsNoted_28 : decode cX8_kindsNoted 28 = .ok (.ishl, 1) := by decide +kernel
theorem dX8_kindsNoted_29 : decode cX8_kindsNoted 29 = .ok (.ior, 1) := by decide +kernel
theorem dX8_kindsNoted_30 : decode cX8_kindsNoted 30 = .ok (.istore_n 3, 1) := by decide +kernel
theorem dX8_kindsNoted_31 : decode cX8_kindsNoted 31 = .ok (.iinc 4 1, 3) := by decide +kernel
theorem dX8_kindsNoted_34 : decode cX8_kindsNoted 34 = .ok (.goto (-29), 3) := by decide +kernel
theorem dX8_kindsNoted_37 : decode cX8_kindsNoted 37 = .ok (.iload_n 3, 1) := by decide +kernel
theorem dX8_kindsNoted_38 : decode cX8_kindsNoted 38 = .ok (.ireturn, 1) := by decide +kernel
theorem dX8_agrees_0 : decode cX8_agrees 0 = .ok (.iconst 0, 1) := by decide +kernel
theorem dX8_agrees_1 : decode cX8_agrees 1 = .ok (.istore_n 3, 1) := by decide +kernel
theorem dX8_agrees_2 : decode cX8_agrees 2 = .ok (.iload_n 3, 1) := by decide +kernel
theorem dX8_agrees_3 : decode cX8_agrees 3 = .ok (.aload_n 0, 1) := by decide +kernel
theorem dX8_agrees_4 : decode cX8_agrees 4 = .ok (.getfield 21, 3) := by decide +kernel
theorem dX8_agrees_7 : decode cX8_agrees 7 = .ok (.if_icmp .ge 40, 3) := by decide +kernel
theorem dX8_agrees_10 : decode cX8_agrees 10 = .ok (.aload_n 0, 1) := by decide +kernel
theorem dX8_agrees_11 : decode cX8_agrees 11 = .ok (.getfield 11, 3) := by decide +kernel
theorem dX8_agrees_14 : decode cX8_agrees 14 = .ok (.iload_n 3, 1) := by decide +kernel
theorem dX8_agrees_15 : decode cX8_agrees 15 = .ok (.iaload, 1) := by decide +kernel
theorem dX8_agrees_16 : decode cX8_agrees 16 = .ok (.iload_n 1, 1) := by decide +kernel
theorem dX8_agrees_17 : decode cX8_agrees 17 = .ok (.if_icmp .ne 24, 3) := by decide +kernel
theorem dX8_agrees_20 : decode cX8_agrees 20 = .ok (.aload_n 2, 1) := by decide +kernel
theorem dX8_agrees_21 : decode cX8_agrees 21 = .ok (.aload_n 0, 1) := by decide +kernel
theorem dX8_agrees_22 : decode cX8_agrees 22 = .ok (.getfield 15, 3) := by decide +kernel
theorem dX8_agrees_25 : decode cX8_agrees 25 = .ok (.iload_n 3, 1) := by decide +kernel
theorem dX8_agrees_26 : decode cX8_agrees 26 = .ok (.iaload, 1) := by decide +kernel
theorem dX8_agrees_27 : decode cX8_agrees 27 = .ok (.invokevirtual 65, 3) := by decide +kernel
theorem dX8_agrees_30 : decode cX8_agrees 30 = .ok (.aload_n 0, 1) := by decide +kernel
theorem dX8_agrees_31 : decode cX8_agrees 31 = .ok (.getfield 18, 3) := by decide +kernel
theorem dX8_agrees_34 : decode cX8_agrees 34 = .ok (.iload_n 3, 1) := by decide +kernel
theorem dX8_agrees_35 : decode cX8_agrees 35 = .ok (.iaload, 1) := by decide +kernel
theorem dX8_agrees_36 : decode cX8_agrees 36 = .ok (.if_icmp .eq 5, 3) := by decide +kernel
theorem dX8_agrees_39 : decode cX8_agrees 39 = .ok (.iconst 0, 1) := by decide +kernel
theorem dX8_agrees_40 : decode cX8_agrees 40 = .ok (.ireturn, 1) := by decide +kernel
theorem dX8_agrees_41 : decode cX8_agrees 41 = .ok (.iinc 3 1, 3) := by decide +kernel
theorem dX8_agrees_44 : decode cX8_agrees 44 = .ok (.goto (-42), 3) := by decide +kernel
theorem dX8_agrees_47 : decode cX8_agrees 47 = .ok (.iconst 1, 1) := by decide +kernel
theorem dX8_agrees_48 : decode cX8_agrees 48 = .ok (.ireturn, 1) := by decide +kernel
theorem dX9_init_0 : decode cX9_init 0 = .ok (.aload_n 0, 1) := by decide +kernel
theorem dX9_init_1 : decode cX9_init 1 = .ok (.invokespecial 1, 3) := by decide +kernel
theorem dX9_init_4 : decode cX9_init 4 = .ok (.return_, 1) := by decide +kernel
theorem dX9_signs_0 : decode cX9_signs 0 = .ok (.aload_n 0, 1) := by decide +kernel
theorem dX9_signs_1 : decode cX9_signs 1 = .ok (.iload_n 1, 1) := by decide +kernel
theorem dX9_signs_2 : decode cX9_signs 2 = .ok (.invokespecial 7, 3) := by decide +kernel
theorem dX9_signs_5 : decode cX9_signs 5 = .ok (.iconst 3, 1) := by decide +kernel
theorem dX9_signs_6 : decode cX9_signs 6 = .ok (.iadd, 1) := by decide +kernel
theorem dX9_signs_7 : decode cX9_signs 7 = .ok (.ireturn, 1) := by decide +kernel
theorem dX9_reach_0 : decode cX9_reach 0 = .ok (.aload_n 0, 1) := by decide +kernel
theorem dX9_reach_1 : decode cX9_reach 1 = .ok (.invokespecial 11, 3) := by decide +kernel
theorem dX9_reach_4 : decode cX9_reach 4 = .ok (.iconst 2, 1) := by decide +kernel
theorem dX9_reach_5 : decode cX9_reach 5 = .ok (.idiv, 1) := by decide +kernel
theorem dX9_reach_6 : decode cX9_reach 6 = .ok (.ireturn, 1) := by decide +kernel
theorem dX10_init_0 : decode cX10_init 0 = .ok (.aload_n 0, 1) := by decide +kernel
theorem dX10_init_1 : decode cX10_init 1 = .ok (.invokespecial 1, 3) := by decide +kernel
theorem dX10_init_4 : decode cX10_init 4 = .ok (.return_, 1) := by decide +kernel
theorem dX10_reach_0 : decode cX10_reach 0 = .ok (.iconst 2, 1) := by decide +kernel
theorem dX10_reach_1 : decode cX10_reach 1 = .ok (.aload_n 0, 1) := by decide +kernel
theorem dX10_reach_2 : decode cX10_reach 2 = .ok (.invokespecial 7, 3) := by decide +kernel
theorem dX10_reach_5 : decode cX10_reach 5 = .ok (.imul, 1) := by decide +kernel
theorem dX10_reach_6 : decode cX10_reach 6 = .ok (.ireturn, 1) := by decide +kernel
theorem dX11_init_0 : decode cX11_init 0 = .ok (.aload_n 0, 1) := by decide +kernel
theorem dX11_init_1 : decode cX11_init 1 = .ok (.invokespecial 1, 3) := by decide +kernel
theorem dX11_init_4 : decode cX11_init 4 = .ok (.bipush 6, 2) := by decide +kernel
theorem dX11_init_6 : decode cX11_init 6 = .ok (.anewarray 7, 3) := by decide +kernel
theorem dX11_init_9 : decode cX11_init 9 = .ok (.dup, 1) := by decide +kernel
theorem dX11_init_10 : decode cX11_init 10 = .ok (.iconst 0, 1) := by decide +kernel
theorem dX11_init_11 : decode cX11_init 11 = .ok (.new 7, 3) := by decide +kernel
theorem dX11_init_14 : decode cX11_init 14 = .ok (.dup, 1) := by decide +kernel
theorem dX11_init_15 : decode cX11_init 15 = .ok (.invokespecial 9, 3) := by decide +kernel
theorem dX11_init_18 : decode cX11_init 18 = .ok (.aastore, 1) := by decide +kernel
theorem dX11_init_19 : decode cX11_init 19 = .ok (.dup, 1) := by decide +kernel
theorem dX11_init_20 : decode cX11_init 20 = .ok (.iconst 1, 1) := by decide +kernel
theorem dX11_init_21 : decode cX11_init 21 = .ok (.new 10, 3) := by decide +kernel
theorem dX11_init_24 : decode cX11_init 24 = .ok (.dup, 1) := by decide +kernel
theorem dX11_init_25 : decode cX11_init 25 = .ok (.invokespecial 12, 3) := by decide +kernel
theorem dX11_init_28 : decode cX11_init 28 = .ok (.aastore, 1) := by decide +kernel
theorem dX11_init_29 : decode cX11_init 29 = .ok (.dup, 1) := by decide +kernel
theorem dX11_init_30 : decode cX11_init 30 = .ok (.iconst 2, 1) := by decide +kernel
theorem dX11_init_31 : decode cX11_init 31 = .ok (.new 13, 3) := by decide +kernel
theorem dX11_init_34 : decode cX11_init 34 = .ok (.dup, 1) := by decide +kernel
theorem dX11_init_35 : decode cX11_init 35 = .ok (.invokespecial 15, 3) := by decide +kernel
theorem dX11_init_38 : decode cX11_init 38 = .ok (.aastore, 1) := by decide +kernel
theorem dX11_init_39 : decode cX11_init 39 = .ok (.dup, 1) := by decide +kernel
theorem dX11_init_40 : decode cX11_init 40 = .ok (.iconst 3, 1) := by decide +kernel
theorem dX11_init_41 : decode cX11_init 41 = .ok (.new 16, 3) := by decide +kernel
theorem dX11_init_44 : decode cX11_init 44 = .ok (.dup, 1) := by decide +kernel
theorem dX11_init_45 : decode cX11_init 45 = .ok (.invokespecial 18, 3) := by decide +kernel
theorem dX11_init_48 : decode cX11_init 48 = .ok (.aastore, 1) := by decide +kernel
theorem dX11_init_49 : decode cX11_init 49 = .ok (.dup, 1) := by decide +kernel
theorem dX11_init_50 : decode cX11_init 50 = .ok (.iconst 4, 1) := by decide +kernel
theorem dX11_init_51 : decode cX11_init 51 = .ok (.new 19, 3) := by decide +kernel
theorem dX11_init_54 : decode cX11_init 54 = .ok (.dup, 1) := by decide +kernel
theorem dX11_init_55 : decode cX11_init 55 = .ok (.invokespecial 21, 3) := by decide +kernel
theorem dX11_init_58 : decode cX11_init 58 = .ok (.aastore, 1) := by decide +kernel
theorem dX11_init_59 : decode cX11_init 59 = .ok (.dup, 1) := by decide +kernel
theorem dX11_init_60 : decode cX11_init 60 = .ok (.iconst 5, 1) := by decide +kernel
theorem dX11_init_61 : decode cX11_init 61 = .ok (.new 22, 3) := by decide +kernel
theorem dX11_init_64 : decode cX11_init 64 = .ok (.dup, 1) := by decide +kernel
theorem dX11_init_65 : decode cX11_init 65 = .ok (.invokespecial 24, 3) := by decide +kernel
theorem dX11_init_68 : decode cX11_init 68 = .ok (.aastore, 1) := by decide +kernel
theorem dX11_init_69 : decode cX11_init 69 = .ok (.astore_n 1, 1) := by decide +kernel
theorem dX11_init_70 : decode cX11_init 70 = .ok (.aload_n 0, 1) := by decide +kernel
theorem dX11_init_71 : decode cX11_init 71 = .ok (.new 25, 3) := by decide +kernel
theorem dX11_init_74 : decode cX11_init 74 = .ok (.dup, 1) := by decide +kernel
theorem dX11_init_75 : decode cX11_init 75 = .ok (.aload_n 1, 1) := by decide +kernel
theorem dX11_init_76 : decode cX11_init 76 = .ok (.invokespecial 27, 3) := by decide +kernel
theorem dX11_init_79 : decode cX11_init 79 = .ok (.putfield 30, 3) := by decide +kernel
theorem dX11_init_82 : decode cX11_init 82 = .ok (.aload_n 0, 1) := by decide +kernel
theorem dX11_init_83 : decode cX11_init 83 = .ok (.new 25, 3) := by decide +kernel
theorem dX11_init_86 : decode cX11_init 86 = .ok (.dup, 1) := by decide +kernel
theorem dX11_init_87 : decode cX11_init 87 = .ok (.aload_n 1, 1) := by decide +kernel
theorem dX11_init_88 : decode cX11_init 88 = .ok (.invokespecial 27, 3) := by decide +kernel
theorem dX11_init_91 : decode cX11_init 91 = .ok (.putfield 36, 3) := by decide +kernel
theorem dX11_init_94 : decode cX11_init 94 = .ok (.aload_n 0, 1) := by decide +kernel
theorem dX11_init_95 : decode cX11_init 95 = .ok (.iconst 2, 1) := by decide +kernel
theorem dX11_init_96 : decode cX11_init 96 = .ok (.anewarray 25, 3) := by decide +kernel
theorem dX11_init_99 : decode cX11_init 99 = .ok (.dup, 1) := by decide +kernel
theorem dX11_init_100 : decode cX11_init 100 = .ok (.iconst 0, 1) := by decide +kernel
theorem dX11_init_101 : decode cX11_init 101 = .ok (.new 25, 3) := by decide +kernel
theorem dX11_init_104 : decode cX11_init 104 = .ok (.dup, 1) := by decide +kernel
theorem dX11_init_105 : decode cX11_init 105 = .ok (.aload_n 1, 1) := by decide +kernel
theorem dX11_init_106 : decode cX11_init 106 = .ok (.invokespecial 27, 3) := by decide +kernel
theorem dX11_init_109 : decode cX11_init 109 = .ok (.aastore, 1) := by decide +kernel
theorem dX11_init_110 : decode cX11_init 110 = .ok (.dup, 1) := by decide +kernel
theorem dX11_init_111 : decode cX11_init 111 = .ok (.iconst 1, 1) := by decide +kernel
theorem dX11_init_112 : decode cX11_init 112 = .ok (.new 25, 3) := by decide +kernel
theorem dX11_init_115 : decode cX11_init 115 = .ok (.dup, 1) := by decide +kernel
theorem dX11_init_116 : decode cX11_init 116 = .ok (.aload_n 1, 1) := by decide +kernel
theorem dX11_init_117 : decode cX11_init 117 = .ok (.invokespecial 27, 3) := by decide +kernel
theorem dX11_init_120 : decode cX11_init 120 = .ok (.aastore, 1) := by decide +kernel
theorem dX11_init_121 : decode cX11_init 121 = .ok (.putfield 39, 3) := by decide +kernel
theorem dX11_init_124 : decode cX11_init 124 = .ok (.aload_n 0, 1) := by decide +kernel
theorem dX11_init_125 : decode cX11_init 125 = .ok (.iconst 2, 1) := by decide +kernel
theorem dX11_init_126 : decode cX11_init 126 = .ok (.newarray .boolean, 2) := by decide +kernel
theorem dX11_init_128 : decode cX11_init 128 = .ok (.putfield 43, 3) := by decide +kernel
theorem dX11_init_131 : decode cX11_init 131 = .ok (.aload_n 0, 1) := by decide +kernel
theorem dX11_init_132 : decode cX11_init 132 = .ok (.new 47, 3) := by decide +kernel
theorem dX11_init_135 : decode cX11_init 135 = .ok (.dup, 1) := by decide +kernel
theorem dX11_init_136 : decode cX11_init 136 = .ok (.invokespecial 49, 3) := by decide +kernel
theorem dX11_init_139 : decode cX11_init 139 = .ok (.putfield 50, 3) := by decide +kernel
theorem dX11_init_142 : decode cX11_init 142 = .ok (.aload_n 0, 1) := by decide +kernel
theorem dX11_init_143 : decode cX11_init 143 = .ok (.new 54, 3) := by decide +kernel
theorem dX11_init_146 : decode cX11_init 146 = .ok (.dup, 1) := by decide +kernel
theorem dX11_init_147 : decode cX11_init 147 = .ok (.invokespecial 56, 3) := by decide +kernel
theorem dX11_init_150 : decode cX11_init 150 = .ok (.putfield 57, 3) := by decide +kernel
theorem dX11_init_153 : decode cX11_init 153 = .ok (.aload_n 0, 1) := by decide +kernel
theorem dX11_init_154 : decode cX11_init 154 = .ok (.lconst 0, 1) := by decide +kernel
theorem dX11_init_155 : decode cX11_init 155 = .ok (.putfield 61, 3) := by decide +kernel
theorem dX11_init_158 : decode cX11_init 158 = .ok (.aload_n 0, 1) := by decide +kernel
theorem dX11_init_159 : decode cX11_init 159 = .ok (.lconst 1, 1) := by decide +kernel
theorem dX11_init_160 : decode cX11_init 160 = .ok (.putfield 65, 3) := by decide +kernel
theorem dX11_init_163 : decode cX11_init 163 = .ok (.return_, 1) := by decide +kernel
theorem dX11_house_0 : decode cX11_house 0 = .ok (.aload_n 0, 1) := by decide +kernel
theorem dX11_house_1 : decode cX11_house 1 = .ok (.getfield 30, 3) := by decide +kernel
theorem dX11_house_4 : decode cX11_house 4 = .ok (.getfield 68, 3) := by decide +kernel
theorem dX11_house_7 : decode cX11_house 7 = .ok (.istore_n 1, 1) := by decide +kernel
theorem dX11_house_8 : decode cX11_house 8 = .ok (.aload_n 0, 1) := by decide +kernel
theorem dX11_house_9 : decode cX11_house 9 = .ok (.getfield 30, 3) := by decide +kernel
theorem dX11_house_12 : decode cX11_house 12 = .ok (.invokevirtual 72, 3) := by decide +kernel
theorem dX11_house_15 : decode cX11_house 15 = .ok (.iload_n 1, 1) := by decide +kernel
theorem dX11_house_16 : decode cX11_house 16 = .ok (.ireturn, 1) := by decide +kernel
theorem dX11_member_0 : decode cX11_member 0 = .ok (.iload_n 1, 1) := by decide +kernel
theorem dX11_member_1 : decode cX11_member 1 = .ok (.iconst 0, 1) := by decide +kernel
theorem dX11_member_2 : decode cX11_member 2 = .ok (.iconst 5, 1) := by decide +kernel
theorem dX11_member_3 : decode cX11_member 3 = .ok (.invokestatic 75, 3) := by decide +kernel
theorem dX11_member_6 : decode cX11_member 6 = .ok (.ifCond .eq 10, 3) := by decide +kernel
theorem dX11_member_9 : decode cX11_member 9 = .ok (.iload_n 2, 1) := by decide +kernel
theorem dX11_member_10 : decode cX11_member 10 = .ok (.invokestatic 79, 3) := by decide +kernel
theorem dX11_member_13 : decode cX11_member 13 = .ok (.ifCond .ne 8, 3) := by decide +kernel
theorem dX11_member_16 : decode cX11_member 16 = .ok (.aload_n 0, 1) := by decide +kernel
theorem dX11_member_17 : decode cX11_member 17 = .ok (.invokevirtual 83, 3) := by decide +kernel
theorem dX11_member_20 : decode cX11_member 20 = .ok (.ireturn, 1) := by decide +kernel
theorem dX11_member_21 : decode cX11_member 21 = .ok (.aload_n 0, 1) := by decide +kernel
theorem dX11_member_22 : decode cX11_member 22 = .ok (.getfield 30, 3) := by decide +kernel
theorem dX11_member_25 : decode cX11_member 25 = .ok (.getfield 68, 3) := by decide +kernel
theorem dX11_member_28 : decode cX11_member 28 = .ok (.iconst 5, 1) := by decide +kernel
theorem dX11_member_29 : decode cX11_member 29 = .ok (.if_icmp .lt 8, 3) := by decide +kernel
theorem dX11_member_32 : decode cX11_member 32 = .ok (.aload_n 0, 1) := by decide +kernel
theorem dX11_member_33 : decode cX11_member 33 = .ok (.invokevirtual 87, 3) := by decide +kernel
theorem dX11_member_36 : decode cX11_member 36 = .ok (.ireturn, 1) := by decide +kernel
theorem dX11_member_37 : decode cX11_member 37 = .ok (.aload_n 0, 1) := by decide +kernel
theorem dX11_member_38 : decode cX11_member 38 = .ok (.getfield 30, 3) := by decide +kernel
theorem dX11_member_41 : decode cX11_member 41 = .ok (.getfield 90, 3) := by decide +kernel
theorem dX11_member_44 : decode cX11_member 44 = .ok (.invokevirtual 94, 3) := by decide +kernel
theorem dX11_member_47 : decode cX11_member 47 = .ok (.aload_n 0, 1) := by decide +kernel
theorem dX11_member_48 : decode cX11_member 48 = .ok (.getfield 30, 3) := by decide +kernel
theorem dX11_member_51 : decode cX11_member 51 = .ok (.iload_n 1, 1) := by decide +kernel
theorem dX11_member_52 : decode cX11_member 52 = .ok (.iload_n 2, 1) := by decide +kernel
theorem dX11_member_53 : decode cX11_member 53 = .ok (.invokevirtual 97, 3) := by decide +kernel
theorem dX11_member_56 : decode cX11_member 56 = .ok (.ireturn, 1) := by decide +kernel
theorem dX11_letter_0 : decode cX11_letter 0 = .ok (.iload_n 1, 1) := by decide +kernel
theorem dX11_letter_1 : decode cX11_letter 1 = .ok (.invokestatic 79, 3) := by decide +kernel
theorem dX11_letter_4 : decode cX11_letter 4 = .ok (.ifCond .eq 20, 3) := by decide +kernel
theorem dX11_letter_7 : decode cX11_letter 7 = .ok (.iload_n 2, 1) := by decide +kernel
theorem dX11_letter_8 : decode cX11_letter 8 = .ok (.invokestatic 79, 3) := by decide +kernel
theorem dX11_letter_11 : decode cX11_letter 11 = .ok (.ifCond .eq 13, 3) := by decide +kernel
theorem dX11_letter_14 : decode cX11_letter 14 = .ok (.iload_n 3, 1) := by decide +kernel
theorem dX11_letter_15 : decode cX11_letter 15 = .ok (.iconst 1, 1) := by decide +kernel
theorem dX11_letter_16 : decode cX11_letter 16 = .ok (.bipush 9, 2) := by decide +kernel
theorem dX11_letter_18 : decode cX11_letter 18 = .ok (.invokestatic 75, 3) := by decide +kernel
theorem dX11_letter_21 : decode cX11_letter 21 = .ok (.ifCond .ne 8, 3) := by decide +kernel
theorem dX11_letter_24 : decode cX11_letter 24 = .ok (.aload_n 0, 1) := by decide +kernel
theorem dX11_letter_25 : decode cX11_letter 25 = .ok (.invokevirtual 83, 3) := by decide +kernel
theorem dX11_letter_28 : decode cX11_letter 28 = .ok (.ireturn, 1) := by decide +kernel
theorem dX11_letter_29 : decode cX11_letter 29 = .ok (.aload_n 0, 1) := by decide +kernel
theorem dX11_letter_30 : decode cX11_letter 30 = .ok (.getfield 30, 3) := by decide +kernel
theorem dX11_letter_33 : decode cX11_letter 33 = .ok (.getfield 101, 3) := by decide +kernel
theorem dX11_letter_36 : decode cX11_letter 36 = .ok (.bipush 6, 2) := by decide +kernel
theorem dX11_letter_38 : decode cX11_letter 38 = .ok (.if_icmp .lt 8, 3) := by decide +kernel
theorem dX11_letter_41 : decode cX11_letter 41 = .ok (.aload_n 0, 1) := by decide +kernel
theorem dX11_letter_42 : decode cX11_letter 42 = .ok (.invokevirtual 87, 3) := by decide +kernel
theorem dX11_letter_45 : decode cX11_letter 45 = .ok (.ireturn, 1) := by decide +kernel
theorem dX11_letter_46 : decode cX11_letter 46 = .ok (.aload_n 0, 1) := by decide +kernel
theorem dX11_letter_47 : decode cX11_letter 47 = .ok (.getfield 30, 3) := by decide +kernel
theorem dX11_letter_50 : decode cX11_letter 50 = .ok (.getfield 90, 3) := by decide +kernel
theorem dX11_letter_53 : decode cX11_letter 53 = .ok (.invokevirtual 94, 3) := by decide +kernel
theorem dX11_letter_56 : decode cX11_letter 56 = .ok (.aload_n 0, 1) := by decide +kernel
theorem dX11_letter_57 : decode cX11_letter 57 = .ok (.getfield 30, 3) := by decide +kernel
theorem dX11_letter_60 : decode cX11_letter 60 = .ok (.iload_n 1, 1) := by decide +kernel
theorem dX11_letter_61 : decode cX11_letter 61 = .ok (.iload_n 2, 1) := by decide +kernel
theorem dX11_letter_62 : decode cX11_letter 62 = .ok (.iload_n 3, 1) := by decide +kernel
theorem dX11_letter_63 : decode cX11_letter 63 = .ok (.invokevirtual 104, 3) := by decide +kernel
theorem dX11_letter_66 : decode cX11_letter 66 = .ok (.ireturn, 1) := by decide +kernel
theorem dX11_type_0 : decode cX11_type 0 = .ok (.iload_n 1, 1) := by decide +kernel
theorem dX11_type_1 : decode cX11_type 1 = .ok (.iconst 0, 1) := by decide +kernel
theorem dX11_type_2 : decode cX11_type 2 = .ok (.bipush 127, 2) := by decide +kernel
theorem dX11_type_4 : decode cX11_type 4 = .ok (.invokestatic 75, 3) := by decide +kernel
theorem dX11_type_7 : decode cX11_type 7 = .ok (.ifCond .ne 8, 3) := by decide +kernel
theorem dX11_type_10 : decode cX11_type 10 = .ok (.aload_n 0, 1) := by decide +kernel
theorem dX11_type_11 : decode cX11_type 11 = .ok (.invokevirtual 83, 3) := by decide +kernel
theorem dX11_type_14 : decode cX11_type 14 = .ok (.ireturn, 1) := by decide +kernel
theorem dX11_type_15 : decode cX11_type 15 = .ok (.aload_n 0, 1) := by decide +kernel
theorem dX11_type_16 : decode cX11_type 16 = .ok (.getfield 57, 3) := by decide +kernel
theorem dX11_type_19 : decode cX11_type 19 = .ok (.iload_n 1, 1) := by decide +kernel
theorem dX11_type_20 : decode cX11_type 20 = .ok (.invokevirtual 108, 3) := by decide +kernel
theorem dX11_type_23 : decode cX11_type 23 = .ok (.ifCond .ne 8, 3) := by decide +kernel
theorem dX11_type_26 : decode cX11_type 26 = .ok (.aload_n 0, 1) := by decide +kernel
theorem dX11_type_27 : decode cX11_type 27 = .ok (.invokevirtual 87, 3) := by decide +kernel
theorem dX11_type_30 : decode cX11_type 30 = .ok (.ireturn, 1) := by decide +kernel
theorem dX11_type_31 : decode cX11_type 31 = .ok (.aload_n 0, 1) := by decide +kernel
theorem dX11_type_32 : decode cX11_type 32 = .ok (.getfield 57, 3) := by decide +kernel
theorem dX11_type_35 : decode cX11_type 35 = .ok (.getfield 111, 3) := by decide +kernel
theorem dX11_type_38 : decode cX11_type 38 = .ok (.ireturn, 1) := by decide +kernel
theorem dX11_clear_0 : decode cX11_clear 0 = .ok (.aload_n 0, 1) := by decide +kernel
theorem dX11_clear_1 : decode cX11_clear 1 = .ok (.getfield 57, 3) := by decide +kernel
theorem dX11_clear_4 : decode cX11_clear 4 = .ok (.getfield 111, 3) := by decide +kernel
theorem dX11_clear_7 : decode cX11_clear 7 = .ok (.istore_n 1, 1) := by decide +kernel
theorem dX11_clear_8 : decode cX11_clear 8 = .ok (.aload_n 0, 1) := by decide +kernel
theorem dX11_clear_9 : decode cX11_clear 9 = .ok (.getfield 57, 3) := by decide +kernel
theorem dX11_clear_12 : decode cX11_clear 12 = .ok (.iconst 0, 1) := by decide +kernel
theorem dX11_clear_13 : decode cX11_clear 13 = .ok (.putfield 111, 3) := by decide +kernel
theorem dX11_clear_16 : decode cX11_clear 16 = .ok (.iload_n 1, 1) := by decide +kernel
theorem dX11_clear_17 : decode cX11_clear 17 = .ok (.ireturn, 1) := by decide +kernel
theorem dX11_read_0 : decode cX11_read 0 = .ok (.aload_n 0, 1) := by decide +kernel
theorem dX11_read_1 : decode cX11_read 1 = .ok (.getfield 36, 3) := by decide +kernel
theorem dX11_read_4 : decode cX11_read 4 = .ok (.invokevirtual 72, 3) := by decide +kernel
theorem dX11_read_7 : decode cX11_read 7 = .ok (.aload_n 0, 1) := by decide +kernel
theorem dX11_read_8 : decode cX11_read 8 = .ok (.getfield 57, 3) := by decide +kernel
theorem dX11_read_11 : decode cX11_read 11 = .ok (.aload_n 0, 1) := by decide +kernel
theorem dX11_read_12 : decode cX11_read 12 = .ok (.getfield 36, 3) := by decide +kernel
theorem dX11_read_15 : decode cX11_read 15 = .ok (.invokevirtual 114, 3) := by decide +kernel
theorem dX11_read_18 : decode cX11_read 18 = .ok (.istore_n 1, 1) := by decide +kernel
theorem dX11_read_19 : decode cX11_read 19 = .ok (.iload_n 1, 1) := by decide +kernel
theorem dX11_read_20 : decode cX11_read 20 = .ok (.iconst (-1), 1) := by decide +kernel
theorem dX11_read_21 : decode cX11_read 21 = .ok (.if_icmp .ne 14, 3) := by decide +kernel
theorem dX11_read_24 : decode cX11_read 24 = .ok (.bipush (-10), 2) := by decide +kernel
theorem dX11_read_26 : decode cX11_read 26 = .ok (.aload_n 0, 1) := by decide +kernel
theorem dX11_read_27 : decode cX11_read 27 = .ok (.getfield 57, 3) := by decide +kernel
theorem dX11_read_30 : decode cX11_read 30 = .ok (.getfield 118, 3) := by decide +kernel
theorem dX11_read_33 : decode cX11_read 33 = .ok (.isub, 1) := by decide +kernel
theorem dX11_read_34 : decode cX11_read 34 = .ok (.ireturn, 1) := by decide +kernel
theorem dX11_read_35 : decode cX11_read 35 = .ok (.aload_n 0, 1) := by decide +kernel
theorem dX11_read_36 : decode cX11_read 36 = .ok (.getfield 30, 3) := by decide +kernel
theorem dX11_read_39 : decode cX11_read 39 = .ok (.aload_n 0, 1) := by decide +kernel
theorem dX11_read_40 : decode cX11_read 40 = .ok (.getfield 36, 3) := by decide +kernel
theorem dX11_read_43 : decode cX11_read 43 = .ok (.invokevirtual 121, 3) := by decide +kernel
theorem dX11_read_46 : decode cX11_read 46 = .ok (.iload_n 1, 1) := by decide +kernel
theorem dX11_read_47 : decode cX11_read 47 = .ok (.ireturn, 1) := by decide +kernel
theorem dX11_frank_0 : decode cX11_frank 0 = .ok (.aload_n 0, 1) := by decide +kernel
theorem dX11_frank_1 : decode cX11_frank 1 = .ok (.iload_n 1, 1) := by decide +kernel
theorem dX11_frank_2 : decode cX11_frank 2 = .ok (.invokevirtual 125, 3) := by decide +kernel
theorem dX11_frank_5 : decode cX11_frank 5 = .ok (.ifCond .eq 11, 3) := by decide +kernel
theorem dX11_frank_8 : decode cX11_frank 8 = .ok (.aload_n 0, 1) := by decide +kernel
theorem dX11_frank_9 : decode cX11_frank 9 = .ok (.iload_n 2, 1) := by decide +kernel
theorem dX11_frank_10 : decode cX11_frank 10 = .ok (.invokevirtual 128, 3) := by decide +kernel
theorem dX11_frank_13 : decode cX11_frank 13 = .ok (.ifCond .ne 8, 3) := by decide +kernel
theorem dX11_frank_16 : decode cX11_frank 16 = .ok (.aload_n 0, 1) := by decide +kernel
theorem dX11_frank_17 : decode cX11_frank 17 = .ok (.invokevirtual 83, 3) := by decide +kernel
theorem dX11_frank_20 : decode cX11_frank 20 = .ok (.ireturn, 1) := by decide +kernel
theorem dX11_frank_21 : decode cX11_frank 21 = .ok (.aload_n 0, 1) := by decide +kernel
theorem dX11_frank_22 : decode cX11_frank 22 = .ok (.getfield 30, 3) := by decide +kernel
theorem dX11_frank_25 : decode cX11_frank 25 = .ok (.iload_n 1, 1) := by decide +kernel
theorem dX11_frank_26 : decode cX11_frank 26 = .ok (.iload_n 2, 1) := by decide +kernel
theorem dX11_frank_27 : decode cX11_frank 27 = .ok (.invokevirtual 131, 3) := by decide +kernel
theorem dX11_frank_30 : decode cX11_frank 30 = .ok (.ifCond .ne 8, 3) := by decide +kernel
theorem dX11_frank_33 : decode cX11_frank 33 = .ok (.aload_n 0, 1) := by decide +kernel
theorem dX11_frank_34 : decode cX11_frank 34 = .ok (.invokevirtual 135, 3) := by decide +kernel
theorem dX11_frank_37 : decode cX11_frank 37 = .ok (.ireturn, 1) := by decide +kernel
theorem dX11_frank_38 : decode cX11_frank 38 = .ok (.aload_n 0, 1) := by decide +kernel
theorem dX11_frank_39 : decode cX11_frank 39 = .ok (.getfield 30, 3) := by decide +kernel
theorem dX11_frank_42 : decode cX11_frank 42 = .ok (.getfield 90, 3) := by decide +kernel
theorem dX11_frank_45 : decode cX11_frank 45 = .ok (.aload_n 0, 1) := by decide +kernel
theorem dX11_frank_46 : decode cX11_frank 46 = .ok (.getfield 30, 3) := by decide +kernel
theorem dX11_frank_49 : decode cX11_frank 49 = .ok (.invokevirtual 138, 3) := by decide +kernel
theorem dX11_frank_52 : decode cX11_frank 52 = .ok (.aload_n 0, 1) := by decide +kernel
theorem dX11_frank_53 : decode cX11_frank 53 = .ok (.getfield 30, 3) := by decide +kernel
theorem dX11_frank_56 : decode cX11_frank 56 = .ok (.iload_n 1, 1) := by decide +kernel
theorem dX11_frank_57 : decode cX11_frank 57 = .ok (.iload_n 2, 1) := by decide +kernel
theorem dX11_frank_58 : decode cX11_frank 58 = .ok (.invokevirtual 141, 3) := by decide +kernel
theorem dX11_frank_61 : decode cX11_frank 61 = .ok (.aload_n 0, 1) := by decide +kernel
theorem dX11_frank_62 : decode cX11_frank 62 = .ok (.getfield 30, 3) := by decide +kernel
theorem dX11_frank_65 : decode cX11_frank 65 = .ok (.iload_n 1, 1) := by decide +kernel
theorem dX11_frank_66 : decode cX11_frank 66 = .ok (.invokevirtual 145, 3) := by decide +kernel
theorem dX11_frank_69 : decode cX11_frank 69 = .ok (.ireturn, 1) := by decide +kernel
theorem dX11_pay_0 : decode cX11_pay 0 = .ok (.aload_n 0, 1) := by decide +kernel
theorem dX11_pay_1 : decode cX11_pay 1 = .ok (.iload_n 1, 1) := by decide +kernel
theorem dX11_pay_2 : decode cX11_pay 2 = .ok (.invokevirtual 125, 3) := by decide +kernel
theorem dX11_pay_5 : decode cX11_pay 5 = .ok (.ifCond .ne 8, 3) := by decide +kernel
theorem dX11_pay_8 : decode cX11_pay 8 = .ok (.aload_n 0, 1) := by decide +kernel
theorem dX11_pay_9 : decode cX11_pay 9 = .ok (.invokevirtual 83, 3) := by decide +kernel
theorem dX11_pay_12 : decode cX11_pay 12 = .ok (.ireturn, 1) := by decide +kernel
theorem dX11_pay_13 : decode cX11_pay 13 = .ok (.aload_n 0, 1) := by decide +kernel
theorem dX11_pay_14 : decode cX11_pay 14 = .ok (.getfield 30, 3) := by decide +kernel
theorem dX11_pay_17 : decode cX11_pay 17 = .ok (.iload_n 1, 1) := by decide +kernel
theorem dX11_pay_18 : decode cX11_pay 18 = .ok (.invokevirtual 149, 3) := by decide +kernel
theorem dX11_pay_21 : decode cX11_pay 21 = .ok (.ifCond .ne 8, 3) := by decide +kernel
theorem dX11_pay_24 : decode cX11_pay 24 = .ok (.aload_n 0, 1) := by decide +kernel
theorem dX11_pay_25 : decode cX11_pay 25 = .ok (.invokevirtual 135, 3) := by decide +kernel
theorem dX11_pay_28 : decode cX11_pay 28 = .ok (.ireturn, 1) := by decide +kernel
theorem dX11_pay_29 : decode cX11_pay 29 = .ok (.aload_n 0, 1) := by decide +kernel
theorem dX11_pay_30 : decode cX11_pay 30 = .ok (.getfield 30, 3) := by decide +kernel
theorem dX11_pay_33 : decode cX11_pay 33 = .ok (.getfield 90, 3) := by decide +kernel
theorem dX11_pay_36 : decode cX11_pay 36 = .ok (.aload_n 0, 1) := by decide +kernel
theorem dX11_pay_37 : decode cX11_pay 37 = .ok (.getfield 30, 3) := by decide +kernel
theorem dX11_pay_40 : decode cX11_pay 40 = .ok (.invokevirtual 138, 3) := by decide +kernel
theorem dX11_pay_43 : decode cX11_pay 43 = .ok (.aload_n 0, 1) := by decide +kernel
theorem dX11_pay_44 : decode cX11_pay 44 = .ok (.getfield 30, 3) := by decide +kernel
theorem dX11_pay_47 : decode cX11_pay 47 = .ok (.iload_n 1, 1) := by decide +kernel
theorem dX11_pay_48 : decode cX11_pay 48 = .ok (.invokevirtual 152, 3) := by decide +kernel
theorem dX11_pay_51 : decode cX11_pay 51 = .ok (.aload_n 0, 1) := by decide +kernel
theorem dX11_pay_52 : decode cX11_pay 52 = .ok (.getfield 30, 3) := by decide +kernel
theorem dX11_pay_55 : decode cX11_pay 55 = .ok (.iload_n 1, 1) := by decide +kernel
theorem dX11_pay_56 : decode cX11_pay 56 = .ok (.invokevirtual 145, 3) := by decide +kernel
theorem dX11_pay_59 : decode cX11_pay 59 = .ok (.ireturn, 1) := by decide +kernel
theorem dX11_moves_0 : decode cX11_moves 0 = .ok (.aload_n 0, 1) := by decide +kernel
theorem dX11_moves_1 : decode cX11_moves 1 = .ok (.iload_n 1, 1) := by decide +kernel
theorem dX11_moves_2 : decode cX11_moves 2 = .ok (.invokevirtual 128, 3) := by decide +kernel
theorem dX11_moves_5 : decode cX11_moves 5 = .ok (.ifCond .eq 10, 3) := by decide +kernel
theorem dX11_moves_8 : decode cX11_moves 8 = .ok (.iload_n 2, 1) := by decide +kernel
theorem dX11_moves_9 : decode cX11_moves 9 = .ok (.invokestatic 79, 3) := by decide +kernel
theorem dX11_moves_12 : decode cX11_moves 12 = .ok (.ifCond .ne 8, 3) := by decide +kernel
theorem dX11_moves_15 : decode cX11_moves 15 = .ok (.aload_n 0, 1) := by decide +kernel
theorem dX11_moves_16 : decode cX11_moves 16 = .ok (.invokevirtual 83, 3) := by decide +kernel
theorem dX11_moves_19 : decode cX11_moves 19 = .ok (.ireturn, 1) := by decide +kernel
theorem dX11_moves_20 : decode cX11_moves 20 = .ok (.aload_n 0, 1) := by decide +kernel
theorem dX11_moves_21 : decode cX11_moves 21 = .ok (.getfield 30, 3) := by decide +kernel
theorem dX11_moves_24 : decode cX11_moves 24 = .ok (.getfield 90, 3) := by decide +kernel
theorem dX11_moves_27 : decode cX11_moves 27 = .ok (.aload_n 0, 1) := by decide +kernel
theorem dX11_moves_28 : decode cX11_moves 28 = .ok (.getfield 30, 3) := by decide +kernel
theorem dX11_moves_31 : decode cX11_moves 31 = .ok (.invokevirtual 138, 3) := by decide +kernel
theorem dX11_moves_34 : decode cX11_moves 34 = .ok (.aload_n 0, 1) := by decide +kernel
theorem dX11_moves_35 : decode cX11_moves 35 = .ok (.getfield 30, 3) := by decide +kernel
theorem dX11_moves_38 : decode cX11_moves 38 = .ok (.getfield 156, 3) := by decide +kernel
theorem dX11_moves_41 : decode cX11_moves 41 = .ok (.iload_n 1, 1) := by decide +kernel
theorem dX11_moves_42 : decode cX11_moves 42 = .ok (.iaload, 1) := by decide +kernel
theorem dX11_moves_43 : decode cX11_moves 43 = .ok (.istore_n 3, 1) := by decide +kernel
theorem dX11_moves_44 : decode cX11_moves 44 = .ok (.aload_n 0, 1) := by decide +kernel
theorem dX11_moves_45 : decode cX11_moves 45 = .ok (.getfield 30, 3) := by decide +kernel
theorem dX11_moves_48 : decode cX11_moves 48 = .ok (.getfield 156, 3) := by decide +kernel
theorem dX11_moves_51 : decode cX11_moves 51 = .ok (.iload_n 1, 1) := by decide +kernel
theorem dX11_moves_52 : decode cX11_moves 52 = .ok (.iload_n 2, 1) := by decide +kernel
theorem dX11_moves_53 : decode cX11_moves 53 = .ok (.iastore, 1) := by decide +kernel
theorem dX11_moves_54 : decode cX11_moves 54 = .ok (.iload_n 3, 1) := by decide +kernel
theorem dX11_moves_55 : decode cX11_moves 55 = .ok (.ireturn, 1) := by decide +kernel
theorem dX11_day_0 : decode cX11_day 0 = .ok (.aload_n 0, 1) := by decide +kernel
theorem dX11_day_1 : decode cX11_day 1 = .ok (.getfield 30, 3) := by decide +kernel
theorem dX11_day_4 : decode cX11_day 4 = .ok (.getfield 90, 3) := by decide +kernel
theorem dX11_day_7 : decode cX11_day 7 = .ok (.aload_n 0, 1) := by decide +kernel
theorem dX11_day_8 : decode cX11_day 8 = .ok (.getfield 30, 3) := by decide +kernel
theorem dX11_day_11 : decode cX11_day 11 = .ok (.invokevirtual 138, 3) := by decide +kernel
theorem dX11_day_14 : decode cX11_day 14 = .ok (.aload_n 0, 1) := by decide +kernel
theorem dX11_day_15 : decode cX11_day 15 = .ok (.getfield 30, 3) := by decide +kernel
theorem dX11_day_18 : decode cX11_day 18 = .ok (.invokevirtual 160, 3) := by decide +kernel
theorem dX11_day_21 : decode cX11_day 21 = .ok (.aload_n 0, 1) := by decide +kernel
theorem dX11_day_22 : decode cX11_day 22 = .ok (.getfield 30, 3) := by decide +kernel
theorem dX11_day_25 : decode cX11_day 25 = .ok (.getfield 163, 3) := by decide +kernel
theorem dX11_day_28 : decode cX11_day 28 = .ok (.ireturn, 1) := by decide +kernel
theorem dX11_undo_0 : decode cX11_undo 0 = .ok (.aload_n 0, 1) := by decide +kernel
theorem dX11_undo_1 : decode cX11_undo 1 = .ok (.getfield 30, 3) := by decide +kernel
theorem dX11_undo_4 : decode cX11_undo 4 = .ok (.getfield 90, 3) := by decide +kernel
theorem dX11_undo_7 : decode cX11_undo 7 = .ok (.aload_n 0, 1) := by decide +kernel
theorem dX11_undo_8 : decode cX11_undo 8 = .ok (.getfield 30, 3) := by decide +kernel
theorem dX11_undo_11 : decode cX11_undo 11 = .ok (.invokevirtual 166, 3) := by decide +kernel
theorem dX11_undo_14 : decode cX11_undo 14 = .ok (.ifCond .ne 8, 3) := by decide +kernel
theorem dX11_undo_17 : decode cX11_undo 17 = .ok (.aload_n 0, 1) := by decide +kernel
theorem dX11_undo_18 : decode cX11_undo 18 = .ok (.invokevirtual 135, 3) := by decide +kernel
theorem dX11_undo_21 : decode cX11_undo 21 = .ok (.ireturn, 1) := by decide +kernel
theorem dX11_undo_22 : decode cX11_undo 22 = .ok (.aload_n 0, 1) := by decide +kernel
theorem dX11_undo_23 : decode cX11_undo 23 = .ok (.getfield 30, 3) := by decide +kernel
theorem dX11_undo_26 : decode cX11_undo 26 = .ok (.getfield 163, 3) := by decide +kernel
theorem dX11_undo_29 : decode cX11_undo 29 = .ok (.ireturn, 1) := by decide +kernel
theorem dX11_of_0 : decode cX11_of 0 = .ok (.aload_n 0, 1) := by decide +kernel
theorem dX11_of_1 : decode cX11_of 1 = .ok (.iload_n 1, 1) := by decide +kernel
theorem dX11_of_2 : decode cX11_of 2 = .ok (.invokevirtual 128, 3) := by decide +kernel
theorem dX11_of_5 : decode cX11_of 5 = .ok (.ifCond .ne 8, 3) := by decide +kernel
theorem dX11_of_8 : decode cX11_of 8 = .ok (.aload_n 0, 1) := by decide +kernel
theorem dX11_of_9 : decode cX11_of 9 = .ok (.invokevirtual 83, 3) := by decide +kernel
theorem dX11_of_12 : decode cX11_of 12 = .ok (.ireturn, 1) := by decide +kernel
theorem dX11_of_13 : decode cX11_of 13 = .ok (.aload_n 0, 1) := by decide +kernel
theorem dX11_of_14 : decode cX11_of 14 = .ok (.getfield 30, 3) := by decide +kernel
theorem dX11_of_17 : decode cX11_of 17 = .ok (.iload_n 1, 1) := by decide +kernel
theorem dX11_of_18 : decode cX11_of 18 = .ok (.invokevirtual 170, 3) := by decide +kernel
theorem dX11_of_21 : decode cX11_of 21 = .ok (.astore_n 3, 1) := by decide +kernel
theorem dX11_of_22 : decode cX11_of 22 = .ok (.iload_n 2, 1) := by decide +kernel
theorem dX11_of_23 : decode cX11_of 23 = .ok (.tableswitch 89 0 5 #[37, 47, 57, 67, 79, 84], 37) := by decide +kernel
theorem dX11_of_60 : decode cX11_of 60 = .ok (.aload_n 0, 1) := by decide +kernel
theorem dX11_of_61 : decode cX11_of 61 = .ok (.getfield 30, 3) := by decide +kernel
theorem dX11_of_64 : decode cX11_of 64 = .ok (.getfield 174, 3) := by decide +kernel
theorem dX11_of_67 : decode cX11_of 67 = .ok (.iload_n 1, 1) := by decide +kernel
theorem dX11_of_68 : decode cX11_of 68 = .ok (.iaload, 1) := by decide +kernel
theorem dX11_of_69 : decode cX11_of 69 = .ok (.ireturn, 1) := by decide +kernel
theorem dX11_of_70 : decode cX11_of 70 = .ok (.aload_n 0, 1) := by decide +kernel
theorem dX11_of_71 : decode cX11_of 71 = .ok (.getfield 30, 3) := by decide +kernel
theorem dX11_of_74 : decode cX11_of 74 = .ok (.getfield 156, 3) := by decide +kernel
theorem dX11_of_77 : decode cX11_of 77 = .ok (.iload_n 1, 1) := by decide +kernel
theorem dX11_of_78 : decode cX11_of 78 = .ok (.iaload, 1) := by decide +kernel
theorem dX11_of_79 : decode cX11_of 79 = .ok (.ireturn, 1) := by decide +kernel
theorem dX11_of_80 : decode cX11_of 80 = .ok (.aload_n 0, 1) := by decide +kernel
theorem dX11_of_81 : decode cX11_of 81 = .ok (.getfield 30, 3) := by decide +kernel
theorem dX11_of_84 : decode cX11_of 84 = .ok (.getfield 177, 3) := by decide +kernel
theorem dX11_of_87 : decode cX11_of 87 = .ok (.iload_n 1, 1) := by decide +kernel
theorem dX11_of_88 : decode cX11_of 88 = .ok (.iaload, 1) := by decide +kernel
theorem dX11_of_89 : decode cX11_of 89 = .ok (.ireturn, 1) := by decide +kernel
theorem dX11_of_90 : decode cX11_of 90 = .ok (.aload_n 3, 1) := by decide +kernel
theorem dX11_of_91 : decode cX11_of 91 = .ok (.aload_n 0, 1) := by decide +kernel
theorem dX11_of_92 : decode cX11_of 92 = .ok (.getfield 30, 3) := by decide +kernel
theorem dX11_of_95 : decode cX11_of 95 = .ok (.getfield 163, 3) := by decide +kernel
theorem dX11_of_98 : decode cX11_of 98 = .ok (.invokevirtual 180, 3) := by decide +kernel
theorem dX11_of_101 : decode cX11_of 101 = .ok (.ireturn, 1) := by decide +kernel
theorem dX11_of_102 : decode cX11_of 102 = .ok (.aload_n 3, 1) := by decide +kernel
theorem dX11_of_103 : decode cX11_of 103 = .ok (.invokevirtual 183, 3) := by decide +kernel
theorem dX11_of_106 : decode cX11_of 106 = .ok (.ireturn, 1) := by decide +kernel
theorem dX11_of_107 : decode cX11_of 107 = .ok (.aload_n 3, 1) := by decide +kernel
theorem dX11_of_108 : decode cX11_of 108 = .ok (.invokevirtual 186, 3) := by decide +kernel
theorem dX11_of_111 : decode cX11_of 111 = .ok (.ireturn, 1) := by decide +kernel
theorem dX11_of_112 : decode cX11_of 112 = .ok (.aload_n 0, 1) := by decide +kernel
theorem dX11_of_113 : decode cX11_of 113 = .ok (.invokevirtual 83, 3) := by decide +kernel
theorem dX11_of_116 : decode cX11_of 116 = .ok (.ireturn, 1) := by decide +kernel
theorem dX11_about_0 : decode cX11_about 0 = .ok (.aload_n 0, 1) := by decide +kernel
theorem dX11_about_1 : decode cX11_about 1 = .ok (.iload_n 1, 1) := by decide +kernel
theorem dX11_about_2 : decode cX11_about 2 = .ok (.invokevirtual 125, 3) := by decide +kernel
theorem dX11_about_5 : decode cX11_about 5 = .ok (.ifCond .ne 8, 3) := by decide +kernel
theorem dX11_about_8 : decode cX11_about 8 = .ok (.aload_n 0, 1) := by decide +kernel
theorem dX11_about_9 : decode cX11_about 9 = .ok (.invokevirtual 189, 3) := by decide +kernel
theorem dX11_about_12 : decode cX11_about 12 = .ok (.ireturn, 1) := by decide +kernel
theorem dX11_about_13 : decode cX11_about 13 = .ok (.iload_n 2, 1) := by decide +kernel
theorem dX11_about_14 : decode cX11_about 14 = .ok (.tableswitch 83 0 4 #[34, 44, 54, 64, 73], 34) := by decide +kernel
theorem dX11_about_48 : decode cX11_about 48 = .ok (.aload_n 0, 1) := by decide +kernel
theorem dX11_about_49 : decode cX11_about 49 = .ok (.getfield 30, 3) := by decide +kernel
theorem dX11_about_52 : decode cX11_about 52 = .ok (.getfield 192, 3) := by decide +kernel
theorem dX11_about_55 : decode cX11_about 55 = .ok (.iload_n 1, 1) := by decide +kernel
theorem dX11_about_56 : decode cX11_about 56 = .ok (.iaload, 1) := by decide +kernel
theorem dX11_about_57 : decode cX11_about 57 = .ok (.ireturn, 1) := by decide +kernel
theorem dX11_about_58 : decode cX11_about 58 = .ok (.aload_n 0, 1) := by decide +kernel
theorem dX11_about_59 : decode cX11_about 59 = .ok (.getfield 30, 3) := by decide +kernel
theorem dX11_about_62 : decode cX11_about 62 = .ok (.getfield 195, 3) := by decide +kernel
theorem dX11_about_65 : decode cX11_about 65 = .ok (.iload_n 1, 1) := by decide +kernel
theorem dX11_about_66 : decode cX11_about 66 = .ok (.iaload, 1) := by decide +kernel
theorem dX11_about_67 : decode cX11_about 67 = .ok (.ireturn, 1) := by decide +kernel
theorem dX11_about_68 : decode cX11_about 68 = .ok (.aload_n 0, 1) := by decide +kernel
theorem dX11_about_69 : decode cX11_about 69 = .ok (.getfield 30, 3) := by decide +kernel
theorem dX11_about_72 : decode cX11_about 72 = .ok (.getfield 198, 3) := by decide +kernel
theorem dX11_about_75 : decode cX11_about 75 = .ok (.iload_n 1, 1) := by decide +kernel
theorem dX11_about_76 : decode cX11_about 76 = .ok (.iaload, 1) := by decide +kernel
theorem dX11_about_77 : decode cX11_about 77 = .ok (.ireturn, 1) := by decide +kernel
theorem dX11_about_78 : decode cX11_about 78 = .ok (.aload_n 0, 1) := by decide +kernel
theorem dX11_about_79 : decode cX11_about 79 = .ok (.getfield 30, 3) := by decide +kernel
theorem dX11_about_82 : decode cX11_about 82 = .ok (.iload_n 1, 1) := by decide +kernel
theorem dX11_about_83 : decode cX11_about 83 = .ok (.invokevirtual 145, 3) := by decide +kernel
theorem dX11_about_86 : decode cX11_about 86 = .ok (.ireturn, 1) := by decide +kernel
theorem dX11_about_87 : decode cX11_about 87 = .ok (.aload_n 0, 1) := by decide +kernel
theorem dX11_about_88 : decode cX11_about 88 = .ok (.getfield 30, 3) := by decide +kernel
theorem dX11_about_91 : decode cX11_about 91 = .ok (.getfield 201, 3) := by decide +kernel
theorem dX11_about_94 : decode cX11_about 94 = .ok (.iload_n 1, 1) := by decide +kernel
theorem dX11_about_95 : decode cX11_about 95 = .ok (.iaload, 1) := by decide +kernel
theorem dX11_about_96 : decode cX11_about 96 = .ok (.ireturn, 1) := by decide +kernel
theorem dX11_about_97 : decode cX11_about 97 = .ok (.aload_n 0, 1) := by decide +kernel
theorem dX11_about_98 : decode cX11_about 98 = .ok (.invokevirtual 189, 3) := by decide +kernel
theorem dX11_about_101 : decode cX11_about 101 = .ok (.ireturn, 1) := by decide +kernel
theorem dX11_now_0 : decode cX11_now 0 = .ok (.iload_n 1, 1) := by decide +kernel
theorem dX11_now_1 : decode cX11_now 1 = .ok (.tableswitch 51 0 2 #[27, 35, 43], 27) := by decide +kernel
theorem dX11_now_28 : decode cX11_now 28 = .ok (.aload_n 0, 1) := by decide +kernel
theorem dX11_now_29 : decode cX11_now 29 = .ok (.getfield 30, 3) := by decide +kernel
theorem dX11_now_32 : decode cX11_now 32 = .ok (.getfield 204, 3) := by decide +kernel
theorem dX11_now_35 : decode cX11_now 35 = .ok (.ireturn, 1) := by decide +kernel
theorem dX11_now_36 : decode cX11_now 36 = .ok (.aload_n 0, 1) := by decide +kernel
theorem dX11_now_37 : decode cX11_now 37 = .ok (.getfield 30, 3) := by decide +kernel
theorem dX11_now_40 : decode cX11_now 40 = .ok (.getfield 207, 3) := by decide +kernel
theorem dX11_now_43 : decode cX11_now 43 = .ok (.ireturn, 1) := by decide +kernel
theorem dX11_now_44 : decode cX11_now 44 = .ok (.aload_n 0, 1) := by decide +kernel
theorem dX11_now_45 : decode cX11_now 45 = .ok (.getfield 30, 3) := by decide +kernel
theorem dX11_now_48 : decode cX11_now 48 = .ok (.invokevirtual 210, 3) := by decide +kernel
theorem dX11_now_51 : decode cX11_now 51 = .ok (.ireturn, 1) := by decide +kernel
theorem dX11_now_52 : decode cX11_now 52 = .ok (.aload_n 0, 1) := by decide +kernel
theorem dX11_now_53 : decode cX11_now 53 = .ok (.invokevirtual 83, 3) := by decide +kernel
theorem dX11_now_56 : decode cX11_now 56 = .ok (.ireturn, 1) := by decide +kernel
theorem dX11_may_0 : decode cX11_may 0 = .ok (.aload_n 0, 1) := by decide +kernel
theorem dX11_may_1 : decode cX11_may 1 = .ok (.iload_n 1, 1) := by decide +kernel
theorem dX11_may_2 : decode cX11_may 2 = .ok (.invokevirtual 125, 3) := by decide +kernel
theorem dX11_may_5 : decode cX11_may 5 = .ok (.ifCond .ne 8, 3) := by decide +kernel
theorem dX11_may_8 : decode cX11_may 8 = .ok (.aload_n 0, 1) := by decide +kernel
theorem dX11_may_9 : decode cX11_may 9 = .ok (.invokevirtual 83, 3) := by decide +kernel
theorem dX11_may_12 : decode cX11_may 12 = .ok (.ireturn, 1) := by decide +kernel
theorem dX11_may_13 : decode cX11_may 13 = .ok (.aload_n 0, 1) := by decide +kernel
theorem dX11_may_14 : decode cX11_may 14 = .ok (.getfield 30, 3) := by decide +kernel
theorem dX11_may_17 : decode cX11_may 17 = .ok (.iload_n 1, 1) := by decide +kernel
theorem dX11_may_18 : decode cX11_may 18 = .ok (.invokevirtual 213, 3) := by decide +kernel
theorem dX11_may_21 : decode cX11_may 21 = .ok (.ireturn, 1) := by decide +kernel
theorem dX11_all_0 : decode cX11_all 0 = .ok (.iload_n 1, 1) := by decide +kernel
theorem dX11_all_1 : decode cX11_all 1 = .ok (.iconst (-1), 1) := by decide +kernel
theorem dX11_all_2 : decode cX11_all 2 = .ok (.if_icmp .eq 16, 3) := by decide +kernel
theorem dX11_all_5 : decode cX11_all 5 = .ok (.aload_n 0, 1) := by decide +kernel
theorem dX11_all_6 : decode cX11_all 6 = .ok (.iload_n 1, 1) := by decide +kernel
theorem dX11_all_7 : decode cX11_all 7 = .ok (.invokevirtual 125, 3) := by decide +kernel
theorem dX11_all_10 : decode cX11_all 10 = .ok (.ifCond .ne 8, 3) := by decide +kernel
theorem dX11_all_13 : decode cX11_all 13 = .ok (.aload_n 0, 1) := by decide +kernel
theorem dX11_all_14 : decode cX11_all 14 = .ok (.invokevirtual 189, 3) := by decide +kernel
theorem dX11_all_17 : decode cX11_all 17 = .ok (.ireturn, 1) := by decide +kernel
theorem dX11_all_18 : decode cX11_all 18 = .ok (.aload_n 0, 1) := by decide +kernel
theorem dX11_all_19 : decode cX11_all 19 = .ok (.getfield 50, 3) := by decide +kernel
theorem dX11_all_22 : decode cX11_all 22 = .ok (.aload_n 0, 1) := by decide +kernel
theorem dX11_all_23 : decode cX11_all 23 = .ok (.getfield 30, 3) := by decide +kernel
theorem dX11_all_26 : decode cX11_all 26 = .ok (.aload_n 0, 1) := by decide +kernel
theorem dX11_all_27 : decode cX11_all 27 = .ok (.invokevirtual 216, 3) := by decide +kernel
theorem dX11_all_30 : decode cX11_all 30 = .ok (.invokevirtual 219, 3) := by decide +kernel
theorem dX11_all_33 : decode cX11_all 33 = .ok (.istore_n 2, 1) := by decide +kernel
theorem dX11_all_34 : decode cX11_all 34 = .ok (.iload_n 1, 1) := by decide +kernel
theorem dX11_all_35 : decode cX11_all 35 = .ok (.iconst (-1), 1) := by decide +kernel
theorem dX11_all_36 : decode cX11_all 36 = .ok (.if_icmp .ne 7, 3) := by decide +kernel
theorem dX11_all_39 : decode cX11_all 39 = .ok (.iload_n 2, 1) := by decide +kernel
theorem dX11_all_40 : decode cX11_all 40 = .ok (.goto 12, 3) := by decide +kernel
theorem dX11_all_43 : decode cX11_all 43 = .ok (.aload_n 0, 1) := by decide +kernel
theorem dX11_all_44 : decode cX11_all 44 = .ok (.getfield 50, 3) := by decide +kernel
theorem dX11_all_47 : decode cX11_all 47 = .ok (.getfield 223, 3) := by decide +kernel
theorem dX11_all_50 : decode cX11_all 50 = .ok (.iload_n 1, 1) := by decide +kernel
theorem dX11_all_51 : decode cX11_all 51 = .ok (.iaload, 1) := by decide +kernel
theorem dX11_all_52 : decode cX11_all 52 = .ok (.ireturn, 1) := by decide +kernel
