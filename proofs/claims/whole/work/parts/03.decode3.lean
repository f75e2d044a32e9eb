theorem dX12_postageOf_0 : decode cX12_postageOf 0 = .ok (.bipush 29, 2) := by decide +kernel
theorem dX12_postageOf_2 : decode cX12_postageOf 2 = .ok (.iconst 3, 1) := by decide +kernel
theorem dX12_postageOf_3 : decode cX12_postageOf 3 = .ok (.iload_n 1, 1) := by decide +kernel
theorem dX12_postageOf_4 : decode cX12_postageOf 4 = .ok (.imul, 1) := by decide +kernel
theorem dX12_postageOf_5 : decode cX12_postageOf 5 = .ok (.iadd, 1) := by decide +kernel
theorem dX12_postageOf_6 : decode cX12_postageOf 6 = .ok (.istore_n 2, 1) := by decide +kernel
theorem dX12_postageOf_7 : decode cX12_postageOf 7 = .ok (.aload_n 0, 1) := by decide +kernel
theorem dX12_postageOf_8 : decode cX12_postageOf 8 = .ok (.iload_n 2, 1) := by decide +kernel
theorem dX12_postageOf_9 : decode cX12_postageOf 9 = .ok (.iconst 2, 1) := by decide +kernel
theorem dX12_postageOf_10 : decode cX12_postageOf 10 = .ok (.iadd, 1) := by decide +kernel
theorem dX12_postageOf_11 : decode cX12_postageOf 11 = .ok (.iaload, 1) := by decide +kernel
theorem dX12_postageOf_12 : decode cX12_postageOf 12 = .ok (.iconst 1, 1) := by decide +kernel
theorem dX12_postageOf_13 : decode cX12_postageOf 13 = .ok (.aload_n 0, 1) := by decide +kernel
theorem dX12_postageOf_14 : decode cX12_postageOf 14 = .ok (.iload_n 2, 1) := by decide +kernel
theorem dX12_postageOf_15 : decode cX12_postageOf 15 = .ok (.iconst 0, 1) := by decide +kernel
theorem dX12_postageOf_16 : decode cX12_postageOf 16 = .ok (.iadd, 1) := by decide +kernel
theorem dX12_postageOf_17 : decode cX12_postageOf 17 = .ok (.iaload, 1) := by decide +kernel
theorem dX12_postageOf_18 : decode cX12_postageOf 18 = .ok (.aload_n 0, 1) := by decide +kernel
theorem dX12_postageOf_19 : decode cX12_postageOf 19 = .ok (.iload_n 2, 1) := by decide +kernel
theorem dX12_postageOf_20 : decode cX12_postageOf 20 = .ok (.iconst 1, 1) := by decide +kernel
theorem dX12_postageOf_21 : decode cX12_postageOf 21 = .ok (.iadd, 1) := by decide +kernel
theorem dX12_postageOf_22 : decode cX12_postageOf 22 = .ok (.iaload, 1) := by decide +kernel
theorem dX12_postageOf_23 : decode cX12_postageOf 23 = .ok (.invokestatic 97, 3) := by decide +kernel
theorem dX12_postageOf_26 : decode cX12_postageOf 26 = .ok (.bipush 15, 2) := by decide +kernel
theorem dX12_postageOf_28 : decode cX12_postageOf 28 = .ok (.idiv, 1) := by decide +kernel
theorem dX12_postageOf_29 : decode cX12_postageOf 29 = .ok (.iadd, 1) := by decide +kernel
theorem dX12_postageOf_30 : decode cX12_postageOf 30 = .ok (.imul, 1) := by decide +kernel
theorem dX12_postageOf_31 : decode cX12_postageOf 31 = .ok (.ireturn, 1) := by decide +kernel
theorem dX12_postage_0 : decode cX12_postage 0 = .ok (.aload_n 0, 1) := by decide +kernel
theorem dX12_postage_1 : decode cX12_postage 1 = .ok (.getfield 7, 3) := by decide +kernel
theorem dX12_postage_4 : decode cX12_postage 4 = .ok (.iload_n 1, 1) := by decide +kernel
theorem dX12_postage_5 : decode cX12_postage 5 = .ok (.invokestatic 101, 3) := by decide +kernel
theorem dX12_postage_8 : decode cX12_postage 8 = .ok (.ireturn, 1) := by decide +kernel
theorem dX12_mayFrank_0 : decode cX12_mayFrank 0 = .ok (.aload_n 0, 1) := by decide +kernel
theorem dX12_mayFrank_1 : decode cX12_mayFrank 1 = .ok (.bipush 24, 2) := by decide +kernel
theorem dX12_mayFrank_3 : decode cX12_mayFrank 3 = .ok (.iload_n 2, 1) := by decide +kernel
theorem dX12_mayFrank_4 : decode cX12_mayFrank 4 = .ok (.iadd, 1) := by decide +kernel
theorem dX12_mayFrank_5 : decode cX12_mayFrank 5 = .ok (.iaload, 1) := by decide +kernel
theorem dX12_mayFrank_6 : decode cX12_mayFrank 6 = .ok (.istore_n 3, 1) := by decide +kernel
theorem dX12_mayFrank_7 : decode cX12_mayFrank 7 = .ok (.bipush 29, 2) := by decide +kernel
theorem dX12_mayFrank_9 : decode cX12_mayFrank 9 = .ok (.iconst 3, 1) := by decide +kernel
theorem dX12_mayFrank_10 : decode cX12_mayFrank 10 = .ok (.iload_n 1, 1) := by decide +kernel
theorem dX12_mayFrank_11 : decode cX12_mayFrank 11 = .ok (.imul, 1) := by decide +kernel
theorem dX12_mayFrank_12 : decode cX12_mayFrank 12 = .ok (.iadd, 1) := by decide +kernel
theorem dX12_mayFrank_13 : decode cX12_mayFrank 13 = .ok (.istore 4, 2) := by decide +kernel
theorem dX12_mayFrank_15 : decode cX12_mayFrank 15 = .ok (.aload_n 0, 1) := by decide +kernel
theorem dX12_mayFrank_16 : decode cX12_mayFrank 16 = .ok (.iload 4, 2) := by decide +kernel
theorem dX12_mayFrank_18 : decode cX12_mayFrank 18 = .ok (.iconst 0, 1) := by decide +kernel
theorem dX12_mayFrank_19 : decode cX12_mayFrank 19 = .ok (.iadd, 1) := by decide +kernel
theorem dX12_mayFrank_20 : decode cX12_mayFrank 20 = .ok (.iaload, 1) := by decide +kernel
theorem dX12_mayFrank_21 : decode cX12_mayFrank 21 = .ok (.aload_n 0, 1) := by decide +kernel
theorem dX12_mayFrank_22 : decode cX12_mayFrank 22 = .ok (.bipush 16, 2) := by decide +kernel
theorem dX12_mayFrank_24 : decode cX12_mayFrank 24 = .ok (.iload_n 2, 1) := by decide +kernel
theorem dX12_mayFrank_25 : decode cX12_mayFrank 25 = .ok (.iadd, 1) := by decide +kernel
theorem dX12_mayFrank_26 : decode cX12_mayFrank 26 = .ok (.iaload, 1) := by decide +kernel
theorem dX12_mayFrank_27 : decode cX12_mayFrank 27 = .ok (.invokestatic 97, 3) := by decide +kernel
theorem dX12_mayFrank_30 : decode cX12_mayFrank 30 = .ok (.iload_n 3, 1) := by decide +kernel
theorem dX12_mayFrank_31 : decode cX12_mayFrank 31 = .ok (.invokestatic 105, 3) := by decide +kernel
theorem dX12_mayFrank_34 : decode cX12_mayFrank 34 = .ok (.if_icmp .gt 7, 3) := by decide +kernel
theorem dX12_mayFrank_37 : decode cX12_mayFrank 37 = .ok (.iconst 1, 1) := by decide +kernel
theorem dX12_mayFrank_38 : decode cX12_mayFrank 38 = .ok (.goto 4, 3) := by decide +kernel
theorem dX12_mayFrank_41 : decode cX12_mayFrank 41 = .ok (.iconst 0, 1) := by decide +kernel
theorem dX12_mayFrank_42 : decode cX12_mayFrank 42 = .ok (.istore 5, 2) := by decide +kernel
theorem dX12_mayFrank_44 : decode cX12_mayFrank 44 = .ok (.aload_n 0, 1) := by decide +kernel
theorem dX12_mayFrank_45 : decode cX12_mayFrank 45 = .ok (.iconst 5, 1) := by decide +kernel
theorem dX12_mayFrank_46 : decode cX12_mayFrank 46 = .ok (.iload_n 1, 1) := by decide +kernel
theorem dX12_mayFrank_47 : decode cX12_mayFrank 47 = .ok (.iadd, 1) := by decide +kernel
theorem dX12_mayFrank_48 : decode cX12_mayFrank 48 = .ok (.iaload, 1) := by decide +kernel
theorem dX12_mayFrank_49 : decode cX12_mayFrank 49 = .ok (.iconst (-1), 1) := by decide +kernel
theorem dX12_mayFrank_50 : decode cX12_mayFrank 50 = .ok (.if_icmp .ne 42, 3) := by decide +kernel
theorem dX12_mayFrank_53 : decode cX12_mayFrank 53 = .ok (.aload_n 0, 1) := by decide +kernel
theorem dX12_mayFrank_54 : decode cX12_mayFrank 54 = .ok (.bipush 11, 2) := by decide +kernel
theorem dX12_mayFrank_56 : decode cX12_mayFrank 56 = .ok (.iload_n 2, 1) := by decide +kernel
theorem dX12_mayFrank_57 : decode cX12_mayFrank 57 = .ok (.iadd, 1) := by decide +kernel
theorem dX12_mayFrank_58 : decode cX12_mayFrank 58 = .ok (.iaload, 1) := by decide +kernel
theorem dX12_mayFrank_59 : decode cX12_mayFrank 59 = .ok (.iload_n 3, 1) := by decide +kernel
theorem dX12_mayFrank_60 : decode cX12_mayFrank 60 = .ok (.aload_n 0, 1) := by decide +kernel
theorem dX12_mayFrank_61 : decode cX12_mayFrank 61 = .ok (.bipush 23, 2) := by decide +kernel
theorem dX12_mayFrank_63 : decode cX12_mayFrank 63 = .ok (.iaload, 1) := by decide +kernel
theorem dX12_mayFrank_64 : decode cX12_mayFrank 64 = .ok (.invokestatic 108, 3) := by decide +kernel
theorem dX12_mayFrank_67 : decode cX12_mayFrank 67 = .ok (.if_icmp .ge 25, 3) := by decide +kernel
theorem dX12_mayFrank_70 : decode cX12_mayFrank 70 = .ok (.iload 5, 2) := by decide +kernel
theorem dX12_mayFrank_72 : decode cX12_mayFrank 72 = .ok (.ifCond .eq 20, 3) := by decide +kernel
theorem dX12_mayFrank_75 : decode cX12_mayFrank 75 = .ok (.aload_n 0, 1) := by decide +kernel
theorem dX12_mayFrank_76 : decode cX12_mayFrank 76 = .ok (.iload 4, 2) := by decide +kernel
theorem dX12_mayFrank_78 : decode cX12_mayFrank 78 = .ok (.iconst 2, 1) := by decide +kernel
theorem dX12_mayFrank_79 : decode cX12_mayFrank 79 = .ok (.iadd, 1) := by decide +kernel
theorem dX12_mayFrank_80 : decode cX12_mayFrank 80 = .ok (.iaload, 1) := by decide +kernel
theorem dX12_mayFrank_81 : decode cX12_mayFrank 81 = .ok (.iload_n 3, 1) := by decide +kernel
theorem dX12_mayFrank_82 : decode cX12_mayFrank 82 = .ok (.invokestatic 111, 3) := by decide +kernel
theorem dX12_mayFrank_85 : decode cX12_mayFrank 85 = .ok (.if_icmp .gt 7, 3) := by decide +kernel
theorem dX12_mayFrank_88 : decode cX12_mayFrank 88 = .ok (.iconst 1, 1) := by decide +kernel
theorem dX12_mayFrank_89 : decode cX12_mayFrank 89 = .ok (.goto 4, 3) := by decide +kernel
theorem dX12_mayFrank_92 : decode cX12_mayFrank 92 = .ok (.iconst 0, 1) := by decide +kernel
theorem dX12_mayFrank_93 : decode cX12_mayFrank 93 = .ok (.ireturn, 1) := by decide +kernel
theorem dX12_goFrank_0 : decode cX12_goFrank 0 = .ok (.aload_n 0, 1) := by decide +kernel
theorem dX12_goFrank_1 : decode cX12_goFrank 1 = .ok (.iconst 5, 1) := by decide +kernel
theorem dX12_goFrank_2 : decode cX12_goFrank 2 = .ok (.iload_n 1, 1) := by decide +kernel
theorem dX12_goFrank_3 : decode cX12_goFrank 3 = .ok (.iadd, 1) := by decide +kernel
theorem dX12_goFrank_4 : decode cX12_goFrank 4 = .ok (.iload_n 2, 1) := by decide +kernel
theorem dX12_goFrank_5 : decode cX12_goFrank 5 = .ok (.iastore, 1) := by decide +kernel
theorem dX12_goFrank_6 : decode cX12_goFrank 6 = .ok (.aload_n 0, 1) := by decide +kernel
theorem dX12_goFrank_7 : decode cX12_goFrank 7 = .ok (.bipush 11, 2) := by decide +kernel
theorem dX12_goFrank_9 : decode cX12_goFrank 9 = .ok (.iload_n 2, 1) := by decide +kernel
theorem dX12_goFrank_10 : decode cX12_goFrank 10 = .ok (.iadd, 1) := by decide +kernel
theorem dX12_goFrank_11 : decode cX12_goFrank 11 = .ok (.dup2, 1) := by decide +kernel
theorem dX12_goFrank_12 : decode cX12_goFrank 12 = .ok (.iaload, 1) := by decide +kernel
theorem dX12_goFrank_13 : decode cX12_goFrank 13 = .ok (.iconst 1, 1) := by decide +kernel
theorem dX12_goFrank_14 : decode cX12_goFrank 14 = .ok (.iadd, 1) := by decide +kernel
theorem dX12_goFrank_15 : decode cX12_goFrank 15 = .ok (.iastore, 1) := by decide +kernel
theorem dX12_goFrank_16 : decode cX12_goFrank 16 = .ok (.aload_n 0, 1) := by decide +kernel
theorem dX12_goFrank_17 : decode cX12_goFrank 17 = .ok (.bipush 21, 2) := by decide +kernel
theorem dX12_goFrank_19 : decode cX12_goFrank 19 = .ok (.dup2, 1) := by decide +kernel
theorem dX12_goFrank_20 : decode cX12_goFrank 20 = .ok (.iaload, 1) := by decide +kernel
theorem dX12_goFrank_21 : decode cX12_goFrank 21 = .ok (.aload_n 0, 1) := by decide +kernel
theorem dX12_goFrank_22 : decode cX12_goFrank 22 = .ok (.iload_n 1, 1) := by decide +kernel
theorem dX12_goFrank_23 : decode cX12_goFrank 23 = .ok (.invokestatic 101, 3) := by decide +kernel
theorem dX12_goFrank_26 : decode cX12_goFrank 26 = .ok (.iadd, 1) := by decide +kernel
theorem dX12_goFrank_27 : decode cX12_goFrank 27 = .ok (.iastore, 1) := by decide +kernel
theorem dX12_goFrank_28 : decode cX12_goFrank 28 = .ok (.aload_n 0, 1) := by decide +kernel
theorem dX12_goFrank_29 : decode cX12_goFrank 29 = .ok (.iload_n 1, 1) := by decide +kernel
theorem dX12_goFrank_30 : decode cX12_goFrank 30 = .ok (.invokestatic 101, 3) := by decide +kernel
theorem dX12_goFrank_33 : decode cX12_goFrank 33 = .ok (.ireturn, 1) := by decide +kernel
theorem dX12_lies_0 : decode cX12_lies 0 = .ok (.aload_n 0, 1) := by decide +kernel
theorem dX12_lies_1 : decode cX12_lies 1 = .ok (.getfield 7, 3) := by decide +kernel
theorem dX12_lies_4 : decode cX12_lies 4 = .ok (.iconst 5, 1) := by decide +kernel
theorem dX12_lies_5 : decode cX12_lies 5 = .ok (.iload_n 1, 1) := by decide +kernel
theorem dX12_lies_6 : decode cX12_lies 6 = .ok (.iadd, 1) := by decide +kernel
theorem dX12_lies_7 : decode cX12_lies 7 = .ok (.iaload, 1) := by decide +kernel
theorem dX12_lies_8 : decode cX12_lies 8 = .ok (.iconst (-1), 1) := by decide +kernel
theorem dX12_lies_9 : decode cX12_lies 9 = .ok (.if_icmp .ne 7, 3) := by decide +kernel
theorem dX12_lies_12 : decode cX12_lies 12 = .ok (.iconst 1, 1) := by decide +kernel
theorem dX12_lies_13 : decode cX12_lies 13 = .ok (.goto 4, 3) := by decide +kernel
theorem dX12_lies_16 : decode cX12_lies 16 = .ok (.iconst 0, 1) := by decide +kernel
theorem dX12_lies_17 : decode cX12_lies 17 = .ok (.ireturn, 1) := by decide +kernel
theorem dX12_keep_0 : decode cX12_keep 0 = .ok (.aload_n 0, 1) := by decide +kernel
theorem dX12_keep_1 : decode cX12_keep 1 = .ok (.getfield 7, 3) := by decide +kernel
theorem dX12_keep_4 : decode cX12_keep 4 = .ok (.iconst 4, 1) := by decide +kernel
theorem dX12_keep_5 : decode cX12_keep 5 = .ok (.iaload, 1) := by decide +kernel
theorem dX12_keep_6 : decode cX12_keep 6 = .ok (.bipush 8, 2) := by decide +kernel
theorem dX12_keep_8 : decode cX12_keep 8 = .ok (.if_icmp .ne 44, 3) := by decide +kernel
theorem dX12_keep_11 : decode cX12_keep 11 = .ok (.iconst 0, 1) := by decide +kernel
theorem dX12_keep_12 : decode cX12_keep 12 = .ok (.istore_n 1, 1) := by decide +kernel
theorem dX12_keep_13 : decode cX12_keep 13 = .ok (.iload_n 1, 1) := by decide +kernel
theorem dX12_keep_14 : decode cX12_keep 14 = .ok (.sipush 133, 3) := by decide +kernel
theorem dX12_keep_17 : decode cX12_keep 17 = .ok (.if_icmp .ge 27, 3) := by decide +kernel
theorem dX12_keep_20 : decode cX12_keep 20 = .ok (.aload_n 0, 1) := by decide +kernel
theorem dX12_keep_21 : decode cX12_keep 21 = .ok (.getfield 7, 3) := by decide +kernel
theorem dX12_keep_24 : decode cX12_keep 24 = .ok (.bipush 83, 2) := by decide +kernel
theorem dX12_keep_26 : decode cX12_keep 26 = .ok (.iload_n 1, 1) := by decide +kernel
theorem dX12_keep_27 : decode cX12_keep 27 = .ok (.iadd, 1) := by decide +kernel
theorem dX12_keep_28 : decode cX12_keep 28 = .ok (.aload_n 0, 1) := by decide +kernel
theorem dX12_keep_29 : decode cX12_keep 29 = .ok (.getfield 7, 3) := by decide +kernel
theorem dX12_keep_32 : decode cX12_keep 32 = .ok (.bipush 102, 2) := by decide +kernel
theorem dX12_keep_34 : decode cX12_keep 34 = .ok (.iload_n 1, 1) := by decide +kernel
theorem dX12_keep_35 : decode cX12_keep 35 = .ok (.iadd, 1) := by decide +kernel
theorem dX12_keep_36 : decode cX12_keep 36 = .ok (.iaload, 1) := by decide +kernel
theorem dX12_keep_37 : decode cX12_keep 37 = .ok (.iastore, 1) := by decide +kernel
theorem dX12_keep_38 : decode cX12_keep 38 = .ok (.iinc 1 1, 3) := by decide +kernel
theorem dX12_keep_41 : decode cX12_keep 41 = .ok (.goto (-28), 3) := by decide +kernel
theorem dX12_keep_44 : decode cX12_keep 44 = .ok (.aload_n 0, 1) := by decide +kernel
theorem dX12_keep_45 : decode cX12_keep 45 = .ok (.getfield 7, 3) := by decide +kernel
theorem dX12_keep_48 : decode cX12_keep 48 = .ok (.iconst 4, 1) := by decide +kernel
theorem dX12_keep_49 : decode cX12_keep 49 = .ok (.bipush 7, 2) := by decide +kernel
theorem dX12_keep_51 : decode cX12_keep 51 = .ok (.iastore, 1) := by decide +kernel
theorem dX12_keep_52 : decode cX12_keep 52 = .ok (.iconst 0, 1) := by decide +kernel
theorem dX12_keep_53 : decode cX12_keep 53 = .ok (.istore_n 1, 1) := by decide +kernel
theorem dX12_keep_54 : decode cX12_keep 54 = .ok (.iload_n 1, 1) := by decide +kernel
theorem dX12_keep_55 : decode cX12_keep 55 = .ok (.bipush 19, 2) := by decide +kernel
theorem dX12_keep_57 : decode cX12_keep 57 = .ok (.if_icmp .ge 36, 3) := by decide +kernel
theorem dX12_keep_60 : decode cX12_keep 60 = .ok (.aload_n 0, 1) := by decide +kernel
theorem dX12_keep_61 : decode cX12_keep 61 = .ok (.getfield 7, 3) := by decide +kernel
theorem dX12_keep_64 : decode cX12_keep 64 = .ok (.bipush 83, 2) := by decide +kernel
theorem dX12_keep_66 : decode cX12_keep 66 = .ok (.bipush 19, 2) := by decide +kernel
theorem dX12_keep_68 : decode cX12_keep 68 = .ok (.aload_n 0, 1) := by decide +kernel
theorem dX12_keep_69 : decode cX12_keep 69 = .ok (.getfield 7, 3) := by decide +kernel
theorem dX12_keep_72 : decode cX12_keep 72 = .ok (.iconst 4, 1) := by decide +kernel
theorem dX12_keep_73 : decode cX12_keep 73 = .ok (.iaload, 1) := by decide +kernel
theorem dX12_keep_74 : decode cX12_keep 74 = .ok (.imul, 1) := by decide +kernel
theorem dX12_keep_75 : decode cX12_keep 75 = .ok (.iadd, 1) := by decide +kernel
theorem dX12_keep_76 : decode cX12_keep 76 = .ok (.iload_n 1, 1) := by decide +kernel
theorem dX12_keep_77 : decode cX12_keep 77 = .ok (.iadd, 1) := by decide +kernel
theorem dX12_keep_78 : decode cX12_keep 78 = .ok (.aload_n 0, 1) := by decide +kernel
theorem dX12_keep_79 : decode cX12_keep 79 = .ok (.getfield 7, 3) := by decide +kernel
theorem dX12_keep_82 : decode cX12_keep 82 = .ok (.iconst 5, 1) := by decide +kernel
theorem dX12_keep_83 : decode cX12_keep 83 = .ok (.iload_n 1, 1) := by decide +kernel
theorem dX12_keep_84 : decode cX12_keep 84 = .ok (.iadd, 1) := by decide +kernel
theorem dX12_keep_85 : decode cX12_keep 85 = .ok (.iaload, 1) := by decide +kernel
theorem dX12_keep_86 : decode cX12_keep 86 = .ok (.iastore, 1) := by decide +kernel
theorem dX12_keep_87 : decode cX12_keep 87 = .ok (.iinc 1 1, 3) := by decide +kernel
theorem dX12_keep_90 : decode cX12_keep 90 = .ok (.goto (-36), 3) := by decide +kernel
theorem dX12_keep_93 : decode cX12_keep 93 = .ok (.aload_n 0, 1) := by decide +kernel
theorem dX12_keep_94 : decode cX12_keep 94 = .ok (.getfield 7, 3) := by decide +kernel
theorem dX12_keep_97 : decode cX12_keep 97 = .ok (.iconst 4, 1) := by decide +kernel
theorem dX12_keep_98 : decode cX12_keep 98 = .ok (.dup2, 1) := by decide +kernel
theorem dX12_keep_99 : decode cX12_keep 99 = .ok (.iaload, 1) := by decide +kernel
theorem dX12_keep_100 : decode cX12_keep 100 = .ok (.iconst 1, 1) := by decide +kernel
theorem dX12_keep_101 : decode cX12_keep 101 = .ok (.iadd, 1) := by decide +kernel
theorem dX12_keep_102 : decode cX12_keep 102 = .ok (.iastore, 1) := by decide +kernel
theorem dX12_keep_103 : decode cX12_keep 103 = .ok (.return_, 1) := by decide +kernel
theorem dX12_frank_0 : decode cX12_frank 0 = .ok (.aload_n 0, 1) := by decide +kernel
theorem dX12_frank_1 : decode cX12_frank 1 = .ok (.iload_n 1, 1) := by decide +kernel
theorem dX12_frank_2 : decode cX12_frank 2 = .ok (.invokevirtual 114, 3) := by decide +kernel
theorem dX12_frank_5 : decode cX12_frank 5 = .ok (.ifCond .eq 11, 3) := by decide +kernel
theorem dX12_frank_8 : decode cX12_frank 8 = .ok (.aload_n 0, 1) := by decide +kernel
theorem dX12_frank_9 : decode cX12_frank 9 = .ok (.iload_n 2, 1) := by decide +kernel
theorem dX12_frank_10 : decode cX12_frank 10 = .ok (.invokevirtual 117, 3) := by decide +kernel
theorem dX12_frank_13 : decode cX12_frank 13 = .ok (.ifCond .ne 10, 3) := by decide +kernel
theorem dX12_frank_16 : decode cX12_frank 16 = .ok (.aload_n 0, 1) := by decide +kernel
theorem dX12_frank_17 : decode cX12_frank 17 = .ok (.bipush (-2), 2) := by decide +kernel
theorem dX12_frank_19 : decode cX12_frank 19 = .ok (.invokevirtual 80, 3) := by decide +kernel
theorem dX12_frank_22 : decode cX12_frank 22 = .ok (.ireturn, 1) := by decide +kernel
theorem dX12_frank_23 : decode cX12_frank 23 = .ok (.aload_n 0, 1) := by decide +kernel
theorem dX12_frank_24 : decode cX12_frank 24 = .ok (.getfield 7, 3) := by decide +kernel
theorem dX12_frank_27 : decode cX12_frank 27 = .ok (.iload_n 1, 1) := by decide +kernel
theorem dX12_frank_28 : decode cX12_frank 28 = .ok (.iload_n 2, 1) := by decide +kernel
theorem dX12_frank_29 : decode cX12_frank 29 = .ok (.invokestatic 120, 3) := by decide +kernel
theorem dX12_frank_32 : decode cX12_frank 32 = .ok (.ifCond .ne 8, 3) := by decide +kernel
theorem dX12_frank_35 : decode cX12_frank 35 = .ok (.aload_n 0, 1) := by decide +kernel
theorem dX12_frank_36 : decode cX12_frank 36 = .ok (.invokevirtual 124, 3) := by decide +kernel
theorem dX12_frank_39 : decode cX12_frank 39 = .ok (.ireturn, 1) := by decide +kernel
theorem dX12_frank_40 : decode cX12_frank 40 = .ok (.aload_n 0, 1) := by decide +kernel
theorem dX12_frank_41 : decode cX12_frank 41 = .ok (.invokevirtual 127, 3) := by decide +kernel
theorem dX12_frank_44 : decode cX12_frank 44 = .ok (.aload_n 0, 1) := by decide +kernel
theorem dX12_frank_45 : decode cX12_frank 45 = .ok (.getfield 7, 3) := by decide +kernel
theorem dX12_frank_48 : decode cX12_frank 48 = .ok (.iload_n 1, 1) := by decide +kernel
theorem dX12_frank_49 : decode cX12_frank 49 = .ok (.iload_n 2, 1) := by decide +kernel
theorem dX12_frank_50 : decode cX12_frank 50 = .ok (.invokestatic 130, 3) := by decide +kernel
theorem dX12_frank_53 : decode cX12_frank 53 = .ok (.ireturn, 1) := by decide +kernel
theorem dX12_pay_0 : decode cX12_pay 0 = .ok (.aload_n 0, 1) := by decide +kernel
theorem dX12_pay_1 : decode cX12_pay 1 = .ok (.iload_n 1, 1) := by decide +kernel
theorem dX12_pay_2 : decode cX12_pay 2 = .ok (.invokevirtual 114, 3) := by decide +kernel
theorem dX12_pay_5 : decode cX12_pay 5 = .ok (.ifCond .ne 10, 3) := by decide +kernel
theorem dX12_pay_8 : decode cX12_pay 8 = .ok (.aload_n 0, 1) := by decide +kernel
theorem dX12_pay_9 : decode cX12_pay 9 = .ok (.bipush (-2), 2) := by decide +kernel
theorem dX12_pay_11 : decode cX12_pay 11 = .ok (.invokevirtual 80, 3) := by decide +kernel
theorem dX12_pay_14 : decode cX12_pay 14 = .ok (.ireturn, 1) := by decide +kernel
theorem dX12_pay_15 : decode cX12_pay 15 = .ok (.aload_n 0, 1) := by decide +kernel
theorem dX12_pay_16 : decode cX12_pay 16 = .ok (.iload_n 1, 1) := by decide +kernel
theorem dX12_pay_17 : decode cX12_pay 17 = .ok (.invokevirtual 134, 3) := by decide +kernel
theorem dX12_pay_20 : decode cX12_pay 20 = .ok (.ifCond .ne 8, 3) := by decide +kernel
theorem dX12_pay_23 : decode cX12_pay 23 = .ok (.aload_n 0, 1) := by decide +kernel
theorem dX12_pay_24 : decode cX12_pay 24 = .ok (.invokevirtual 124, 3) := by decide +kernel
theorem dX12_pay_27 : decode cX12_pay 27 = .ok (.ireturn, 1) := by decide +kernel
theorem dX12_pay_28 : decode cX12_pay 28 = .ok (.aload_n 0, 1) := by decide +kernel
theorem dX12_pay_29 : decode cX12_pay 29 = .ok (.invokevirtual 127, 3) := by decide +kernel
theorem dX12_pay_32 : decode cX12_pay 32 = .ok (.aload_n 0, 1) := by decide +kernel
theorem dX12_pay_33 : decode cX12_pay 33 = .ok (.getfield 7, 3) := by decide +kernel
theorem dX12_pay_36 : decode cX12_pay 36 = .ok (.iconst 5, 1) := by decide +kernel
theorem dX12_pay_37 : decode cX12_pay 37 = .ok (.iload_n 1, 1) := by decide +kernel
theorem dX12_pay_38 : decode cX12_pay 38 = .ok (.iadd, 1) := by decide +kernel
theorem dX12_pay_39 : decode cX12_pay 39 = .ok (.iconst 5, 1) := by decide +kernel
theorem dX12_pay_40 : decode cX12_pay 40 = .ok (.iastore, 1) := by decide +kernel
theorem dX12_pay_41 : decode cX12_pay 41 = .ok (.aload_n 0, 1) := by decide +kernel
theorem dX12_pay_42 : decode cX12_pay 42 = .ok (.getfield 7, 3) := by decide +kernel
theorem dX12_pay_45 : decode cX12_pay 45 = .ok (.bipush 22, 2) := by decide +kernel
theorem dX12_pay_47 : decode cX12_pay 47 = .ok (.dup2, 1) := by decide +kernel
theorem dX12_pay_48 : decode cX12_pay 48 = .ok (.iaload, 1) := by decide +kernel
theorem dX12_pay_49 : decode cX12_pay 49 = .ok (.aload_n 0, 1) := by decide +kernel
theorem dX12_pay_50 : decode cX12_pay 50 = .ok (.iload_n 1, 1) := by decide +kernel
theorem dX12_pay_51 : decode cX12_pay 51 = .ok (.invokevirtual 137, 3) := by decide +kernel
theorem dX12_pay_54 : decode cX12_pay 54 = .ok (.iadd, 1) := by decide +kernel
theorem dX12_pay_55 : decode cX12_pay 55 = .ok (.iastore, 1) := by decide +kernel
theorem dX12_pay_56 : decode cX12_pay 56 = .ok (.aload_n 0, 1) := by decide +kernel
theorem dX12_pay_57 : decode cX12_pay 57 = .ok (.iload_n 1, 1) := by decide +kernel
theorem dX12_pay_58 : decode cX12_pay 58 = .ok (.invokevirtual 137, 3) := by decide +kernel
theorem dX12_pay_61 : decode cX12_pay 61 = .ok (.ireturn, 1) := by decide +kernel
theorem dX12_moves_0 : decode cX12_moves 0 = .ok (.aload_n 0, 1) := by decide +kernel
theorem dX12_moves_1 : decode cX12_moves 1 = .ok (.iload_n 1, 1) := by decide +kernel
theorem dX12_moves_2 : decode cX12_moves 2 = .ok (.invokevirtual 117, 3) := by decide +kernel
theorem dX12_moves_5 : decode cX12_moves 5 = .ok (.ifCond .eq 10, 3) := by decide +kernel
theorem dX12_moves_8 : decode cX12_moves 8 = .ok (.iload_n 2, 1) := by decide +kernel
theorem dX12_moves_9 : decode cX12_moves 9 = .ok (.invokestatic 76, 3) := by decide +kernel
theorem dX12_moves_12 : decode cX12_moves 12 = .ok (.ifCond .ne 10, 3) := by decide +kernel
theorem dX12_moves_15 : decode cX12_moves 15 = .ok (.aload_n 0, 1) := by decide +kernel
theorem dX12_moves_16 : decode cX12_moves 16 = .ok (.bipush (-2), 2) := by decide +kernel
theorem dX12_moves_18 : decode cX12_moves 18 = .ok (.invokevirtual 80, 3) := by decide +kernel
theorem dX12_moves_21 : decode cX12_moves 21 = .ok (.ireturn, 1) := by decide +kernel
theorem dX12_moves_22 : decode cX12_moves 22 = .ok (.aload_n 0, 1) := by decide +kernel
theorem dX12_moves_23 : decode cX12_moves 23 = .ok (.getfield 7, 3) := by decide +kernel
theorem dX12_moves_26 : decode cX12_moves 26 = .ok (.bipush 16, 2) := by decide +kernel
theorem dX12_moves_28 : decode cX12_moves 28 = .ok (.iload_n 1, 1) := by decide +kernel
theorem dX12_moves_29 : decode cX12_moves 29 = .ok (.iadd, 1) := by decide +kernel
theorem dX12_moves_30 : decode cX12_moves 30 = .ok (.iaload, 1) := by decide +kernel
theorem dX12_moves_31 : decode cX12_moves 31 = .ok (.istore_n 3, 1) := by decide +kernel
theorem dX12_moves_32 : decode cX12_moves 32 = .ok (.aload_n 0, 1) := by decide +kernel
theorem dX12_moves_33 : decode cX12_moves 33 = .ok (.invokevirtual 127, 3) := by decide +kernel
theorem dX12_moves_36 : decode cX12_moves 36 = .ok (.aload_n 0, 1) := by decide +kernel
theorem dX12_moves_37 : decode cX12_moves 37 = .ok (.getfield 7, 3) := by decide +kernel
theorem dX12_moves_40 : decode cX12_moves 40 = .ok (.bipush 16, 2) := by decide +kernel
theorem dX12_moves_42 : decode cX12_moves 42 = .ok (.iload_n 1, 1) := by decide +kernel
theorem dX12_moves_43 : decode cX12_moves 43 = .ok (.iadd, 1) := by decide +kernel
theorem dX12_moves_44 : decode cX12_moves 44 = .ok (.iload_n 2, 1) := by decide +kernel
theorem dX12_moves_45 : decode cX12_moves 45 = .ok (.iastore, 1) := by decide +kernel
theorem dX12_moves_46 : decode cX12_moves 46 = .ok (.iload_n 3, 1) := by decide +kernel
theorem dX12_moves_47 : decode cX12_moves 47 = .ok (.ireturn, 1) := by decide +kernel
theorem dX12_goDay_0 : decode cX12_goDay 0 = .ok (.iconst 0, 1) := by decide +kernel
theorem dX12_goDay_1 : decode cX12_goDay 1 = .ok (.istore_n 1, 1) := by decide +kernel
theorem dX12_goDay_2 : decode cX12_goDay 2 = .ok (.iload_n 1, 1) := by decide +kernel
theorem dX12_goDay_3 : decode cX12_goDay 3 = .ok (.iconst 5, 1) := by decide +kernel
theorem dX12_goDay_4 : decode cX12_goDay 4 = .ok (.if_icmp .ge 16, 3) := by decide +kernel
theorem dX12_goDay_7 : decode cX12_goDay 7 = .ok (.aload_n 0, 1) := by decide +kernel
theorem dX12_goDay_8 : decode cX12_goDay 8 = .ok (.bipush 11, 2) := by decide +kernel
theorem dX12_goDay_10 : decode cX12_goDay 10 = .ok (.iload_n 1, 1) := by decide +kernel
theorem dX12_goDay_11 : decode cX12_goDay 11 = .ok (.iadd, 1) := by decide +kernel
theorem dX12_goDay_12 : decode cX12_goDay 12 = .ok (.iconst 0, 1) := by decide +kernel
theorem dX12_goDay_13 : decode cX12_goDay 13 = .ok (.iastore, 1) := by decide +kernel
theorem dX12_goDay_14 : decode cX12_goDay 14 = .ok (.iinc 1 1, 3) := by decide +kernel
theorem dX12_goDay_17 : decode cX12_goDay 17 = .ok (.goto (-15), 3) := by decide +kernel
theorem dX12_goDay_20 : decode cX12_goDay 20 = .ok (.aload_n 0, 1) := by decide +kernel
theorem dX12_goDay_21 : decode cX12_goDay 21 = .ok (.bipush 23, 2) := by decide +kernel
theorem dX12_goDay_23 : decode cX12_goDay 23 = .ok (.aload_n 0, 1) := by decide +kernel
theorem dX12_goDay_24 : decode cX12_goDay 24 = .ok (.bipush 23, 2) := by decide +kernel
theorem dX12_goDay_26 : decode cX12_goDay 26 = .ok (.iaload, 1) := by decide +kernel
theorem dX12_goDay_27 : decode cX12_goDay 27 = .ok (.sipush 999, 3) := by decide +kernel
theorem dX12_goDay_30 : decode cX12_goDay 30 = .ok (.if_icmp .ge 12, 3) := by decide +kernel
theorem dX12_goDay_33 : decode cX12_goDay 33 = .ok (.aload_n 0, 1) := by decide +kernel
theorem dX12_goDay_34 : decode cX12_goDay 34 = .ok (.bipush 23, 2) := by decide +kernel
theorem dX12_goDay_36 : decode cX12_goDay 36 = .ok (.iaload, 1) := by decide +kernel
theorem dX12_goDay_37 : decode cX12_goDay 37 = .ok (.iconst 1, 1) := by decide +kernel
theorem dX12_goDay_38 : decode cX12_goDay 38 = .ok (.iadd, 1) := by decide +kernel
theorem dX12_goDay_39 : decode cX12_goDay 39 = .ok (.goto 6, 3) := by decide +kernel
theorem dX12_goDay_42 : decode cX12_goDay 42 = .ok (.sipush 999, 3) := by decide +kernel
theorem dX12_goDay_45 : decode cX12_goDay 45 = .ok (.iastore, 1) := by decide +kernel
theorem dX12_goDay_46 : decode cX12_goDay 46 = .ok (.return_, 1) := by decide +kernel
theorem dX12_day_0 : decode cX12_day 0 = .ok (.aload_n 0, 1) := by decide +kernel
theorem dX12_day_1 : decode cX12_day 1 = .ok (.invokevirtual 127, 3) := by decide +kernel
theorem dX12_day_4 : decode cX12_day 4 = .ok (.aload_n 0, 1) := by decide +kernel
theorem dX12_day_5 : decode cX12_day 5 = .ok (.getfield 7, 3) := by decide +kernel
theorem dX12_day_8 : decode cX12_day 8 = .ok (.invokestatic 140, 3) := by decide +kernel
theorem dX12_day_11 : decode cX12_day 11 = .ok (.aload_n 0, 1) := by decide +kernel
theorem dX12_day_12 : decode cX12_day 12 = .ok (.getfield 7, 3) := by decide +kernel
theorem dX12_day_15 : decode cX12_day 15 = .ok (.bipush 23, 2) := by decide +kernel
theorem dX12_day_17 : decode cX12_day 17 = .ok (.iaload, 1) := by decide +kernel
theorem dX12_day_18 : decode cX12_day 18 = .ok (.ireturn, 1) := by decide +kernel
theorem dX12_undo_0 : decode cX12_undo 0 = .ok (.aload_n 0, 1) := by decide +kernel
theorem dX12_undo_1 : decode cX12_undo 1 = .ok (.getfield 7, 3) := by decide +kernel
theorem dX12_undo_4 : decode cX12_undo 4 = .ok (.iconst 4, 1) := by decide +kernel
theorem dX12_undo_5 : decode cX12_undo 5 = .ok (.iaload, 1) := by decide +kernel
theorem dX12_undo_6 : decode cX12_undo 6 = .ok (.ifCond .ne 8, 3) := by decide +kernel
theorem dX12_undo_9 : decode cX12_undo 9 = .ok (.aload_n 0, 1) := by decide +kernel
theorem dX12_undo_10 : decode cX12_undo 10 = .ok (.invokevirtual 124, 3) := by decide +kernel
theorem dX12_undo_13 : decode cX12_undo 13 = .ok (.ireturn, 1) := by decide +kernel
theorem dX12_undo_14 : decode cX12_undo 14 = .ok (.aload_n 0, 1) := by decide +kernel
theorem dX12_undo_15 : decode cX12_undo 15 = .ok (.getfield 7, 3) := by decide +kernel
theorem dX12_undo_18 : decode cX12_undo 18 = .ok (.iconst 4, 1) := by decide +kernel
theorem dX12_undo_19 : decode cX12_undo 19 = .ok (.dup2, 1) := by decide +kernel
theorem dX12_undo_20 : decode cX12_undo 20 = .ok (.iaload, 1) := by decide +kernel
theorem dX12_undo_21 : decode cX12_undo 21 = .ok (.iconst 1, 1) := by decide +kernel
theorem dX12_undo_22 : decode cX12_undo 22 = .ok (.isub, 1) := by decide +kernel
theorem dX12_undo_23 : decode cX12_undo 23 = .ok (.iastore, 1) := by decide +kernel
theorem dX12_undo_24 : decode cX12_undo 24 = .ok (.iconst 0, 1) := by decide +kernel
theorem dX12_undo_25 : decode cX12_undo 25 = .ok (.istore_n 1, 1) := by decide +kernel
theorem dX12_undo_26 : decode cX12_undo 26 = .ok (.iload_n 1, 1) := by decide +kernel
theorem dX12_undo_27 : decode cX12_undo 27 = .ok (.bipush 19, 2) := by decide +kernel
theorem dX12_undo_29 : decode cX12_undo 29 = .ok (.if_icmp .ge 36, 3) := by decide +kernel
theorem dX12_undo_32 : decode cX12_undo 32 = .ok (.aload_n 0, 1) := by decide +kernel
theorem dX12_undo_33 : decode cX12_undo 33 = .ok (.getfield 7, 3) := by decide +kernel
theorem dX12_undo_36 : decode cX12_undo 36 = .ok (.iconst 5, 1) := by decide +kernel
theorem dX12_undo_37 : decode cX12_undo 37 = .ok (.iload_n 1, 1) := by decide +kernel
theorem dX12_undo_38 : decode cX12_undo 38 = .ok (.iadd, 1) := by decide +kernel
theorem dX12_undo_39 : decode cX12_undo 39 = .ok (.aload_n 0, 1) := by decide +kernel
theorem dX12_undo_40 : decode cX12_undo 40 = .ok (.getfield 7, 3) := by decide +kernel
theorem dX12_undo_43 : decode cX12_undo 43 = .ok (.bipush 83, 2) := by decide +kernel
theorem dX12_undo_45 : decode cX12_undo 45 = .ok (.bipush 19, 2) := by decide +kernel
theorem dX12_undo_47 : decode cX12_undo 47 = .ok (.aload_n 0, 1) := by decide +kernel
theorem dX12_undo_48 : decode cX12_undo 48 = .ok (.getfield 7, 3) := by decide +kernel
theorem dX12_undo_51 : decode cX12_undo 51 = .ok (.iconst 4, 1) := by decide +kernel
theorem dX12_undo_52 : decode cX12_undo 52 = .ok (.iaload, 1) := by decide +kernel
theorem dX12_undo_53 : decode cX12_undo 53 = .ok (.imul, 1) := by decide +kernel
theorem dX12_undo_54 : decode cX12_undo 54 = .ok (.iadd, 1) := by decide +kernel
theorem dX12_undo_55 : decode cX12_undo 55 = .ok (.iload_n 1, 1) := by decide +kernel
theorem dX12_undo_56 : decode cX12_undo 56 = .ok (.iadd, 1) := by decide +kernel
theorem dX12_undo_57 : decode cX12_undo 57 = .ok (.iaload, 1) := by decide +kernel
theorem dX12_undo_58 : decode cX12_undo 58 = .ok (.iastore, 1) := by decide +kernel
theorem dX12_undo_59 : decode cX12_undo 59 = .ok (.iinc 1 1, 3) := by decide +kernel
theorem dX12_undo_62 : decode cX12_undo 62 = .ok (.goto (-36), 3) := by decide +kernel
theorem dX12_undo_65 : decode cX12_undo 65 = .ok (.aload_n 0, 1) := by decide +kernel
theorem dX12_undo_66 : decode cX12_undo 66 = .ok (.getfield 7, 3) := by decide +kernel
theorem dX12_undo_69 : decode cX12_undo 69 = .ok (.bipush 23, 2) := by decide +kernel
theorem dX12_undo_71 : decode cX12_undo 71 = .ok (.iaload, 1) := by decide +kernel
theorem dX12_undo_72 : decode cX12_undo 72 = .ok (.ireturn, 1) := by decide +kernel
theorem dX12_of_0 : decode cX12_of 0 = .ok (.aload_n 0, 1) := by decide +kernel
theorem dX12_of_1 : decode cX12_of 1 = .ok (.iload_n 1, 1) := by decide +kernel
theorem dX12_of_2 : decode cX12_of 2 = .ok (.invokevirtual 117, 3) := by decide +kernel
theorem dX12_of_5 : decode cX12_of 5 = .ok (.ifCond .eq 15, 3) := by decide +kernel
theorem dX12_of_8 : decode cX12_of 8 = .ok (.iload_n 2, 1) := by decide +kernel
theorem dX12_of_9 : decode cX12_of 9 = .ok (.i2l, 1) := by decide +kernel
theorem dX12_of_10 : decode cX12_of 10 = .ok (.lconst 0, 1) := by decide +kernel
theorem dX12_of_11 : decode cX12_of 11 = .ok (.ldc2_w 74, 3) := by decide +kernel
theorem dX12_of_14 : decode cX12_of 14 = .ok (.invokestatic 65, 3) := by decide +kernel
theorem dX12_of_17 : decode cX12_of 17 = .ok (.ifCond .ne 10, 3) := by decide +kernel
theorem dX12_of_20 : decode cX12_of 20 = .ok (.aload_n 0, 1) := by decide +kernel
theorem dX12_of_21 : decode cX12_of 21 = .ok (.bipush (-2), 2) := by decide +kernel
theorem dX12_of_23 : decode cX12_of 23 = .ok (.invokevirtual 80, 3) := by decide +kernel
theorem dX12_of_26 : decode cX12_of 26 = .ok (.ireturn, 1) := by decide +kernel
theorem dX12_of_27 : decode cX12_of 27 = .ok (.aload_n 0, 1) := by decide +kernel
theorem dX12_of_28 : decode cX12_of 28 = .ok (.getfield 7, 3) := by decide +kernel
theorem dX12_of_31 : decode cX12_of 31 = .ok (.bipush 24, 2) := by decide +kernel
theorem dX12_of_33 : decode cX12_of 33 = .ok (.iload_n 1, 1) := by decide +kernel
theorem dX12_of_34 : decode cX12_of 34 = .ok (.iadd, 1) := by decide +kernel
theorem dX12_of_35 : decode cX12_of 35 = .ok (.iaload, 1) := by decide +kernel
theorem dX12_of_36 : decode cX12_of 36 = .ok (.istore_n 3, 1) := by decide +kernel
theorem dX12_of_37 : decode cX12_of 37 = .ok (.iload_n 2, 1) := by decide +kernel
theorem dX12_of_38 : decode cX12_of 38 = .ok (.tableswitch 73 0 4 #[34, 36, 46, 56, 68], 34) := by decide +kernel
theorem dX12_of_72 : decode cX12_of 72 = .ok (.iload_n 3, 1) := by decide +kernel
theorem dX12_of_73 : decode cX12_of 73 = .ok (.ireturn, 1) := by decide +kernel
theorem dX12_of_74 : decode cX12_of 74 = .ok (.aload_n 0, 1) := by decide +kernel
theorem dX12_of_75 : decode cX12_of 75 = .ok (.getfield 7, 3) := by decide +kernel
theorem dX12_of_78 : decode cX12_of 78 = .ok (.bipush 16, 2) := by decide +kernel
theorem dX12_of_80 : decode cX12_of 80 = .ok (.iload_n 1, 1) := by decide +kernel
theorem dX12_of_81 : decode cX12_of 81 = .ok (.iadd, 1) := by decide +kernel
theorem dX12_of_82 : decode cX12_of 82 = .ok (.iaload, 1) := by decide +kernel
theorem dX12_of_83 : decode cX12_of 83 = .ok (.ireturn, 1) := by decide +kernel
theorem dX12_of_84 : decode cX12_of 84 = .ok (.aload_n 0, 1) := by decide +kernel
theorem dX12_of_85 : decode cX12_of 85 = .ok (.getfield 7, 3) := by decide +kernel
theorem dX12_of_88 : decode cX12_of 88 = .ok (.bipush 11, 2) := by decide +kernel
theorem dX12_of_90 : decode cX12_of 90 = .ok (.iload_n 1, 1) := by decide +kernel
theorem dX12_of_91 : decode cX12_of 91 = .ok (.iadd, 1) := by decide +kernel
theorem dX12_of_92 : decode cX12_of 92 = .ok (.iaload, 1) := by decide +kernel
theorem dX12_of_93 : decode cX12_of 93 = .ok (.ireturn, 1) := by decide +kernel
theorem dX12_of_94 : decode cX12_of 94 = .ok (.iload_n 3, 1) := by decide +kernel
theorem dX12_of_95 : decode cX12_of 95 = .ok (.aload_n 0, 1) := by decide +kernel
theorem dX12_of_96 : decode cX12_of 96 = .ok (.getfield 7, 3) := by decide +kernel
theorem dX12_of_99 : decode cX12_of 99 = .ok (.bipush 23, 2) := by decide +kernel
theorem dX12_of_101 : decode cX12_of 101 = .ok (.iaload, 1) := by decide +kernel
theorem dX12_of_102 : decode cX12_of 102 = .ok (.invokestatic 108, 3) := by decide +kernel
theorem dX12_of_105 : decode cX12_of 105 = .ok (.ireturn, 1) := by decide +kernel
theorem dX12_of_106 : decode cX12_of 106 = .ok (.iload_n 3, 1) := by decide +kernel
theorem dX12_of_107 : decode cX12_of 107 = .ok (.invokestatic 105, 3) := by decide +kernel
theorem dX12_of_110 : decode cX12_of 110 = .ok (.ireturn, 1) := by decide +kernel
theorem dX12_of_111 : decode cX12_of 111 = .ok (.iload_n 3, 1) := by decide +kernel
theorem dX12_of_112 : decode cX12_of 112 = .ok (.invokestatic 111, 3) := by decide +kernel
theorem dX12_of_115 : decode cX12_of 115 = .ok (.ireturn, 1) := by decide +kernel
theorem dX12_about_0 : decode cX12_about 0 = .ok (.aload_n 0, 1) := by decide +kernel
theorem dX12_about_1 : decode cX12_about 1 = .ok (.iload_n 1, 1) := by decide +kernel
theorem dX12_about_2 : decode cX12_about 2 = .ok (.invokevirtual 114, 3) := by decide +kernel
theorem dX12_about_5 : decode cX12_about 5 = .ok (.ifCond .eq 15, 3) := by decide +kernel
theorem dX12_about_8 : decode cX12_about 8 = .ok (.iload_n 2, 1) := by decide +kernel
theorem dX12_about_9 : decode cX12_about 9 = .ok (.i2l, 1) := by decide +kernel
theorem dX12_about_10 : decode cX12_about 10 = .ok (.lconst 0, 1) := by decide +kernel
theorem dX12_about_11 : decode cX12_about 11 = .ok (.ldc2_w 143, 3) := by decide +kernel
theorem dX12_about_14 : decode cX12_about 14 = .ok (.invokestatic 65, 3) := by decide +kernel
theorem dX12_about_17 : decode cX12_about 17 = .ok (.ifCond .ne 10, 3) := by decide +kernel
theorem dX12_about_20 : decode cX12_about 20 = .ok (.aload_n 0, 1) := by decide +kernel
theorem dX12_about_21 : decode cX12_about 21 = .ok (.bipush (-10), 2) := by decide +kernel
theorem dX12_about_23 : decode cX12_about 23 = .ok (.invokevirtual 80, 3) := by decide +kernel
theorem dX12_about_26 : decode cX12_about 26 = .ok (.ireturn, 1) := by decide +kernel
theorem dX12_about_27 : decode cX12_about 27 = .ok (.iload_n 2, 1) := by decide +kernel
theorem dX12_about_28 : decode cX12_about 28 = .ok (.iconst 3, 1) := by decide +kernel
theorem dX12_about_29 : decode cX12_about 29 = .ok (.if_icmp .ge 12, 3) := by decide +kernel
theorem dX12_about_32 : decode cX12_about 32 = .ok (.aload_n 0, 1) := by decide +kernel
theorem dX12_about_33 : decode cX12_about 33 = .ok (.iload_n 1, 1) := by decide +kernel
theorem dX12_about_34 : decode cX12_about 34 = .ok (.iload_n 2, 1) := by decide +kernel
theorem dX12_about_35 : decode cX12_about 35 = .ok (.invokevirtual 145, 3) := by decide +kernel
theorem dX12_about_38 : decode cX12_about 38 = .ok (.goto 24, 3) := by decide +kernel
theorem dX12_about_41 : decode cX12_about 41 = .ok (.iload_n 2, 1) := by decide +kernel
theorem dX12_about_42 : decode cX12_about 42 = .ok (.iconst 3, 1) := by decide +kernel
theorem dX12_about_43 : decode cX12_about 43 = .ok (.if_icmp .ne 11, 3) := by decide +kernel
theorem dX12_about_46 : decode cX12_about 46 = .ok (.aload_n 0, 1) := by decide +kernel
theorem dX12_about_47 : decode cX12_about 47 = .ok (.iload_n 1, 1) := by decide +kernel
theorem dX12_about_48 : decode cX12_about 48 = .ok (.invokevirtual 137, 3) := by decide +kernel
theorem dX12_about_51 : decode cX12_about 51 = .ok (.goto 11, 3) := by decide +kernel
theorem dX12_about_54 : decode cX12_about 54 = .ok (.aload_n 0, 1) := by decide +kernel
theorem dX12_about_55 : decode cX12_about 55 = .ok (.getfield 7, 3) := by decide +kernel
theorem dX12_about_58 : decode cX12_about 58 = .ok (.iconst 5, 1) := by decide +kernel
theorem dX12_about_59 : decode cX12_about 59 = .ok (.iload_n 1, 1) := by decide +kernel
theorem dX12_about_60 : decode cX12_about 60 = .ok (.iadd, 1) := by decide +kernel
theorem dX12_about_61 : decode cX12_about 61 = .ok (.iaload, 1) := by decide +kernel
theorem dX12_about_62 : decode cX12_about 62 = .ok (.ireturn, 1) := by decide +kernel
theorem dX12_due_0 : decode cX12_due 0 = .ok (.iconst 0, 1) := by decide +kernel
theorem dX12_due_1 : decode cX12_due 1 = .ok (.istore_n 1, 1) := by decide +kernel
theorem dX12_due_2 : decode cX12_due 2 = .ok (.iconst 0, 1) := by decide +kernel
theorem dX12_due_3 : decode cX12_due 3 = .ok (.istore_n 2, 1) := by decide +kernel
theorem dX12_due_4 : decode cX12_due 4 = .ok (.iload_n 2, 1) := by decide +kernel
theorem dX12_due_5 : decode cX12_due 5 = .ok (.aload_n 0, 1) := by decide +kernel
theorem dX12_due_6 : decode cX12_due 6 = .ok (.invokevirtual 69, 3) := by decide +kernel
theorem dX12_due_9 : decode cX12_due 9 = .ok (.if_icmp .ge 29, 3) := by decide +kernel
theorem dX12_due_12 : decode cX12_due 12 = .ok (.iload_n 1, 1) := by decide +kernel
theorem dX12_due_13 : decode cX12_due 13 = .ok (.aload_n 0, 1) := by decide +kernel
theorem dX12_due_14 : decode cX12_due 14 = .ok (.iload_n 2, 1) := by decide +kernel
theorem dX12_due_15 : decode cX12_due 15 = .ok (.invokevirtual 134, 3) := by decide +kernel
theorem dX12_due_18 : decode cX12_due 18 = .ok (.ifCond .eq 11, 3) := by decide +kernel
theorem dX12_due_21 : decode cX12_due 21 = .ok (.aload_n 0, 1) := by decide +kernel
theorem dX12_due_22 : decode cX12_due 22 = .ok (.iload_n 2, 1) := by decide +kernel
theorem dX12_due_23 : decode cX12_due 23 = .ok (.invokevirtual 137, 3) := by decide +kernel
theorem dX12_due_26 : decode cX12_due 26 = .ok (.goto 4, 3) := by decide +kernel
theorem dX12_due_29 : decode cX12_due 29 = .ok (.iconst 0, 1) := by decide +kernel
theorem dX12_due_30 : decode cX12_due 30 = .ok (.iadd, 1) := by decide +kernel
theorem dX12_due_31 : decode cX12_due 31 = .ok (.istore_n 1, 1) := by decide +kernel
theorem dX12_due_32 : decode cX12_due 32 = .ok (.iinc 2 1, 3) := by decide +kernel
theorem dX12_due_35 : decode cX12_due 35 = .ok (.goto (-31), 3) := by decide +kernel
theorem dX12_due_38 : decode cX12_due 38 = .ok (.iload_n 1, 1) := by decide +kernel
theorem dX12_due_39 : decode cX12_due 39 = .ok (.ireturn, 1) := by decide +kernel
theorem dX12_now_0 : decode cX12_now 0 = .ok (.iload_n 1, 1) := by decide +kernel
theorem dX12_now_1 : decode cX12_now 1 = .ok (.ifCond .ne 13, 3) := by decide +kernel
theorem dX12_now_4 : decode cX12_now 4 = .ok (.aload_n 0, 1) := by decide +kernel
theorem dX12_now_5 : decode cX12_now 5 = .ok (.getfield 7, 3) := by decide +kernel
theorem dX12_now_8 : decode cX12_now 8 = .ok (.bipush 21, 2) := by decide +kernel
theorem dX12_now_10 : decode cX12_now 10 = .ok (.iaload, 1) := by decide +kernel
theorem dX12_now_11 : decode cX12_now 11 = .ok (.goto 36, 3) := by decide +kernel
theorem dX12_now_14 : decode cX12_now 14 = .ok (.iload_n 1, 1) := by decide +kernel
theorem dX12_now_15 : decode cX12_now 15 = .ok (.iconst 1, 1) := by decide +kernel
theorem dX12_now_16 : decode cX12_now 16 = .ok (.if_icmp .ne 13, 3) := by decide +kernel
theorem dX12_now_19 : decode cX12_now 19 = .ok (.aload_n 0, 1) := by decide +kernel
theorem dX12_now_20 : decode cX12_now 20 = .ok (.getfield 7, 3) := by decide +kernel
theorem dX12_now_23 : decode cX12_now 23 = .ok (.bipush 22, 2) := by decide +kernel
theorem dX12_now_25 : decode cX12_now 25 = .ok (.iaload, 1) := by decide +kernel
theorem dX12_now_26 : decode cX12_now 26 = .ok (.goto 21, 3) := by decide +kernel
theorem dX12_now_29 : decode cX12_now 29 = .ok (.iload_n 1, 1) := by decide +kernel
theorem dX12_now_30 : decode cX12_now 30 = .ok (.iconst 2, 1) := by decide +kernel
theorem dX12_now_31 : decode cX12_now 31 = .ok (.if_icmp .ne 10, 3) := by decide +kernel
theorem dX12_now_34 : decode cX12_now 34 = .ok (.aload_n 0, 1) := by decide +kernel
theorem dX12_now_35 : decode cX12_now 35 = .ok (.invokevirtual 148, 3) := by decide +kernel
theorem dX12_now_38 : decode cX12_now 38 = .ok (.goto 9, 3) := by decide +kernel
theorem dX12_now_41 : decode cX12_now 41 = .ok (.aload_n 0, 1) := by decide +kernel
theorem dX12_now_42 : decode cX12_now 42 = .ok (.bipush (-2), 2) := by decide +kernel
theorem dX12_now_44 : decode cX12_now 44 = .ok (.invokevirtual 80, 3) := by decide +kernel
theorem dX12_now_47 : decode cX12_now 47 = .ok (.ireturn, 1) := by decide +kernel
theorem dX12_may_0 : decode cX12_may 0 = .ok (.aload_n 0, 1) := by decide +kernel
theorem dX12_may_1 : decode cX12_may 1 = .ok (.iload_n 1, 1) := by decide +kernel
theorem dX12_may_2 : decode cX12_may 2 = .ok (.invokevirtual 114, 3) := by decide +kernel
theorem dX12_may_5 : decode cX12_may 5 = .ok (.ifCond .ne 10, 3) := by decide +kernel
theorem dX12_may_8 : decode cX12_may 8 = .ok (.aload_n 0, 1) := by decide +kernel
theorem dX12_may_9 : decode cX12_may 9 = .ok (.bipush (-2), 2) := by decide +kernel
theorem dX12_may_11 : decode cX12_may 11 = .ok (.invokevirtual 80, 3) := by decide +kernel
theorem dX12_may_14 : decode cX12_may 14 = .ok (.ireturn, 1) := by decide +kernel
theorem dX12_may_15 : decode cX12_may 15 = .ok (.iconst 0, 1) := by decide +kernel
theorem dX12_may_16 : decode cX12_may 16 = .ok (.istore_n 2, 1) := by decide +kernel
theorem dX12_may_17 : decode cX12_may 17 = .ok (.iconst 0, 1) := by decide +kernel
theorem dX12_may_18 : decode cX12_may 18 = .ok (.istore_n 3, 1) := by decide +kernel
theorem dX12_may_19 : decode cX12_may 19 = .ok (.iload_n 3, 1) := by decide +kernel
theorem dX12_may_20 : decode cX12_may 20 = .ok (.aload_n 0, 1) := by decide +kernel
theorem dX12_may_21 : decode cX12_may 21 = .ok (.invokevirtual 61, 3) := by decide +kernel
theorem dX12_may_24 : decode cX12_may 24 = .ok (.if_icmp .ge 31, 3) := by decide +kernel
theorem dX12_may_27 : decode cX12_may 27 = .ok (.iload_n 2, 1) := by decide +kernel
theorem dX12_may_28 : decode cX12_may 28 = .ok (.aload_n 0, 1) := by decide +kernel
theorem dX12_may_29 : decode cX12_may 29 = .ok (.getfield 7, 3) := by decide +kernel
theorem dX12_may_32 : decode cX12_may 32 = .ok (.iload_n 1, 1) := by decide +kernel
theorem dX12_may_33 : decode cX12_may 33 = .ok (.iload_n 3, 1) := by decide +kernel
theorem dX12_may_34 : decode cX12_may 34 = .ok (.invokestatic 120, 3) := by decide +kernel
theorem dX12_may_37 : decode cX12_may 37 = .ok (.ifCond .eq 9, 3) := by decide +kernel
theorem dX12_may_40 : decode cX12_may 40 = .ok (.iconst 1, 1) := by decide +kernel
theorem dX12_may_41 : decode cX12_may 41 = .ok (.iload_n 3, 1) := by decide +kernel
theorem dX12_may_42 : decode cX12_may 42 = .ok (.ishl, 1) := by decide +kernel
theorem dX12_may_43 : decode cX12_may 43 = .ok (.goto 4, 3) := by decide +kernel
theorem dX12_may_46 : decode cX12_may 46 = .ok (.iconst 0, 1) := by decide +kernel
theorem dX12_may_47 : decode cX12_may 47 = .ok (.ior, 1) := by decide +kernel
theorem dX12_may_48 : decode cX12_may 48 = .ok (.istore_n 2, 1) := by decide +kernel
theorem dX12_may_49 : decode cX12_may 49 = .ok (.iinc 3 1, 3) := by decide +kernel
theorem dX12_may_52 : decode cX12_may 52 = .ok (.goto (-33), 3) := by decide +kernel
theorem dX12_may_55 : decode cX12_may 55 = .ok (.iload_n 2, 1) := by decide +kernel
theorem dX12_may_56 : decode cX12_may 56 = .ok (.ireturn, 1) := by decide +kernel
theorem dX12_layCovers_0 : decode cX12_layCovers 0 = .ok (.iconst 0, 1) := by decide +kernel
theorem dX12_layCovers_1 : decode cX12_layCovers 1 = .ok (.istore_n 1, 1) := by decide +kernel
theorem dX12_layCovers_2 : decode cX12_layCovers 2 = .ok (.iload_n 1, 1) := by decide +kernel
theorem dX12_layCovers_3 : decode cX12_layCovers 3 = .ok (.aload_n 0, 1) := by decide +kernel
theorem dX12_layCovers_4 : decode cX12_layCovers 4 = .ok (.invokevirtual 61, 3) := by decide +kernel
theorem dX12_layCovers_7 : decode cX12_layCovers 7 = .ok (.if_icmp .ge 44, 3) := by decide +kernel
theorem dX12_layCovers_10 : decode cX12_layCovers 10 = .ok (.aload_n 0, 1) := by decide +kernel
theorem dX12_layCovers_11 : decode cX12_layCovers 11 = .ok (.getfield 33, 3) := by decide +kernel
theorem dX12_layCovers_14 : decode cX12_layCovers 14 = .ok (.iload_n 1, 1) := by decide +kernel
theorem dX12_layCovers_15 : decode cX12_layCovers 15 = .ok (.aload_n 0, 1) := by decide +kernel
theorem dX12_layCovers_16 : decode cX12_layCovers 16 = .ok (.getfield 7, 3) := by decide +kernel
theorem dX12_layCovers_19 : decode cX12_layCovers 19 = .ok (.bipush 24, 2) := by decide +kernel
theorem dX12_layCovers_21 : decode cX12_layCovers 21 = .ok (.iload_n 1, 1) := by decide +kernel
theorem dX12_layCovers_22 : decode cX12_layCovers 22 = .ok (.iadd, 1) := by decide +kernel
theorem dX12_layCovers_23 : decode cX12_layCovers 23 = .ok (.iaload, 1) := by decide +kernel
theorem dX12_layCovers_24 : decode cX12_layCovers 24 = .ok (.aload_n 0, 1) := by decide +kernel
theorem dX12_layCovers_25 : decode cX12_layCovers 25 = .ok (.getfield 7, 3) := by decide +kernel
theorem dX12_layCovers_28 : decode cX12_layCovers 28 = .ok (.bipush 23, 2) := by decide +kernel
theorem dX12_layCovers_30 : decode cX12_layCovers 30 = .ok (.iaload, 1) := by decide +kernel
theorem dX12_layCovers_31 : decode cX12_layCovers 31 = .ok (.invokestatic 108, 3) := by decide +kernel
theorem dX12_layCovers_34 : decode cX12_layCovers 34 = .ok (.aload_n 0, 1) := by decide +kernel
theorem dX12_layCovers_35 : decode cX12_layCovers 35 = .ok (.getfield 7, 3) := by decide +kernel
theorem dX12_layCovers_38 : decode cX12_layCovers 38 = .ok (.bipush 11, 2) := by decide +kernel
theorem dX12_layCovers_40 : decode cX12_layCovers 40 = .ok (.iload_n 1, 1) := by decide +kernel
theorem dX12_layCovers_41 : decode cX12_layCovers 41 = .ok (.iadd, 1) := by decide +kernel
theorem dX12_layCovers_42 : decode cX12_layCovers 42 = .ok (.iaload, 1) := by decide +kernel
theorem dX12_layCovers_43 : decode cX12_layCovers 43 = .ok (.isub, 1) := by decide +kernel
theorem dX12_layCovers_44 : decode cX12_layCovers 44 = .ok (.iastore, 1) := by decide +kernel
theorem dX12_layCovers_45 : decode cX12_layCovers 45 = .ok (.iinc 1 1, 3) := by decide +kernel
theorem dX12_layCovers_48 : decode cX12_layCovers 48 = .ok (.goto (-46), 3) := by decide +kernel
theorem dX12_layCovers_51 : decode cX12_layCovers 51 = .ok (.return_, 1) := by decide +kernel
theorem dX12_savedBy_0 : decode cX12_savedBy 0 = .ok (.iload_n 1, 1) := by decide +kernel
theorem dX12_savedBy_1 : decode cX12_savedBy 1 = .ok (.istore_n 2, 1) := by decide +kernel
theorem dX12_savedBy_2 : decode cX12_savedBy 2 = .ok (.iconst 0, 1) := by decide +kernel
theorem dX12_savedBy_3 : decode cX12_savedBy 3 = .ok (.istore_n 3, 1) := by decide +kernel
theorem dX12_savedBy_4 : decode cX12_savedBy 4 = .ok (.iconst 1, 1) := by decide +kernel
theorem dX12_savedBy_5 : decode cX12_savedBy 5 = .ok (.istore 4, 2) := by decide +kernel
theorem dX12_savedBy_7 : decode cX12_savedBy 7 = .ok (.aload_n 0, 1) := by decide +kernel
theorem dX12_savedBy_8 : decode cX12_savedBy 8 = .ok (.invokevirtual 151, 3) := by decide +kernel
theorem dX12_savedBy_11 : decode cX12_savedBy 11 = .ok (.aload_n 0, 1) := by decide +kernel
theorem dX12_savedBy_12 : decode cX12_savedBy 12 = .ok (.invokevirtual 69, 3) := by decide +kernel
theorem dX12_savedBy_15 : decode cX12_savedBy 15 = .ok (.iconst 1, 1) := by decide +kernel
theorem dX12_savedBy_16 : decode cX12_savedBy 16 = .ok (.isub, 1) := by decide +kernel
theorem dX12_savedBy_17 : decode cX12_savedBy 17 = .ok (.istore 5, 2) := by decide +kernel
theorem dX12_savedBy_19 : decode cX12_savedBy 19 = .ok (.iload 5, 2) := by decide +kernel
theorem dX12_savedBy_21 : decode cX12_savedBy 21 = .ok (.ifCond .lt 150, 3) := by decide +kernel
theorem dX12_savedBy_24 : decode cX12_savedBy 24 = .ok (.iload_n 2, 1) := by decide +kernel
theorem dX12_savedBy_25 : decode cX12_savedBy 25 = .ok (.bipush 6, 2) := by decide +kernel
theorem dX12_savedBy_27 : decode cX12_savedBy 27 = .ok (.irem, 1) := by decide +kernel
theorem dX12_savedBy_28 : decode cX12_savedBy 28 = .ok (.istore 6, 2) := by decide +kernel
theorem dX12_savedBy_30 : decode cX12_savedBy 30 = .ok (.iload_n 2, 1) := by decide +kernel
theorem dX12_savedBy_31 : decode cX12_savedBy 31 = .ok (.bipush 6, 2) := by decide +kernel
theorem dX12_savedBy_33 : decode cX12_savedBy 33 = .ok (.idiv, 1) := by decide +kernel
theorem dX12_savedBy_34 : decode cX12_savedBy 34 = .ok (.istore_n 2, 1) := by decide +kernel
theorem dX12_savedBy_35 : decode cX12_savedBy 35 = .ok (.aload_n 0, 1) := by decide +kernel
theorem dX12_savedBy_36 : decode cX12_savedBy 36 = .ok (.getfield 27, 3) := by decide +kernel
theorem dX12_savedBy_39 : decode cX12_savedBy 39 = .ok (.iload 5, 2) := by decide +kernel
theorem dX12_savedBy_41 : decode cX12_savedBy 41 = .ok (.aload_n 0, 1) := by decide +kernel
theorem dX12_savedBy_42 : decode cX12_savedBy 42 = .ok (.iload 5, 2) := by decide +kernel
theorem dX12_savedBy_44 : decode cX12_savedBy 44 = .ok (.invokevirtual 134, 3) := by decide +kernel
theorem dX12_savedBy_47 : decode cX12_savedBy 47 = .ok (.ifCond .eq 8, 3) := by decide +kernel
theorem dX12_savedBy_50 : decode cX12_savedBy 50 = .ok (.iload 6, 2) := by decide +kernel
theorem dX12_savedBy_52 : decode cX12_savedBy 52 = .ok (.goto 5, 3) := by decide +kernel
theorem dX12_savedBy_55 : decode cX12_savedBy 55 = .ok (.bipush 6, 2) := by decide +kernel
theorem dX12_savedBy_57 : decode cX12_savedBy 57 = .ok (.iastore, 1) := by decide +kernel
theorem dX12_savedBy_58 : decode cX12_savedBy 58 = .ok (.iload 4, 2) := by decide +kernel
theorem dX12_savedBy_60 : decode cX12_savedBy 60 = .ok (.ifCond .eq 22, 3) := by decide +kernel
theorem dX12_savedBy_63 : decode cX12_savedBy 63 = .ok (.aload_n 0, 1) := by decide +kernel
theorem dX12_savedBy_64 : decode cX12_savedBy 64 = .ok (.iload 5, 2) := by decide +kernel
theorem dX12_savedBy_66 : decode cX12_savedBy 66 = .ok (.invokevirtual 134, 3) := by decide +kernel
theorem dX12_savedBy_69 : decode cX12_savedBy 69 = .ok (.ifCond .ne 9, 3) := by decide +kernel
theorem dX12_savedBy_72 : decode cX12_savedBy 72 = .ok (.iload 6, 2) := by decide +kernel
theorem dX12_savedBy_74 : decode cX12_savedBy 74 = .ok (.iconst 5, 1) := by decide +kernel
theorem dX12_savedBy_75 : decode cX12_savedBy 75 = .ok (.if_icmp .ne 7, 3) := by decide +kernel
theorem dX12_savedBy_78 : decode cX12_savedBy 78 = .ok (.iconst 1, 1) := by decide +kernel
theorem dX12_savedBy_79 : decode cX12_savedBy 79 = .ok (.goto 4, 3) := by decide +kernel
theorem dX12_savedBy_82 : decode cX12_savedBy 82 = .ok (.iconst 0, 1) := by decide +kernel
theorem dX12_savedBy_83 : decode cX12_savedBy 83 = .ok (.istore 4, 2) := by decide +kernel
theorem dX12_savedBy_85 : decode cX12_savedBy 85 = .ok (.aload_n 0, 1) := by decide +kernel
theorem dX12_savedBy_86 : decode cX12_savedBy 86 = .ok (.iload 5, 2) := by decide +kernel
theorem dX12_savedBy_88 : decode cX12_savedBy 88 = .ok (.invokevirtual 134, 3) := by decide +kernel
theorem dX12_savedBy_91 : decode cX12_savedBy 91 = .ok (.ifCond .eq 74, 3) := by decide +kernel
theorem dX12_savedBy_94 : decode cX12_savedBy 94 = .ok (.iload 6, 2) := by decide +kernel
theorem dX12_savedBy_96 : decode cX12_savedBy 96 = .ok (.iconst 5, 1) := by decide +kernel
theorem dX12_savedBy_97 : decode cX12_savedBy 97 = .ok (.if_icmp .eq 68, 3) := by decide +kernel
theorem dX12_savedBy_100 : decode cX12_savedBy 100 = .ok (.iload 4, 2) := by decide +kernel
theorem dX12_savedBy_102 : decode cX12_savedBy 102 = .ok (.ifCond .eq 40, 3) := by decide +kernel
theorem dX12_savedBy_105 : decode cX12_savedBy 105 = .ok (.iload 6, 2) := by decide +kernel
theorem dX12_savedBy_107 : decode cX12_savedBy 107 = .ok (.aload_n 0, 1) := by decide +kernel
theorem dX12_savedBy_108 : decode cX12_savedBy 108 = .ok (.invokevirtual 61, 3) := by decide +kernel
theorem dX12_savedBy_111 : decode cX12_savedBy 111 = .ok (.if_icmp .ge 31, 3) := by decide +kernel
theorem dX12_savedBy_114 : decode cX12_savedBy 114 = .ok (.aload_n 0, 1) := by decide +kernel
theorem dX12_savedBy_115 : decode cX12_savedBy 115 = .ok (.getfield 7, 3) := by decide +kernel
theorem dX12_savedBy_118 : decode cX12_savedBy 118 = .ok (.iload 5, 2) := by decide +kernel
theorem dX12_savedBy_120 : decode cX12_savedBy 120 = .ok (.iload 6, 2) := by decide +kernel
theorem dX12_savedBy_122 : decode cX12_savedBy 122 = .ok (.invokestatic 120, 3) := by decide +kernel
theorem dX12_savedBy_125 : decode cX12_savedBy 125 = .ok (.ifCond .eq 17, 3) := by decide +kernel
theorem dX12_savedBy_128 : decode cX12_savedBy 128 = .ok (.aload_n 0, 1) := by decide +kernel
theorem dX12_savedBy_129 : decode cX12_savedBy 129 = .ok (.getfield 33, 3) := by decide +kernel
theorem dX12_savedBy_132 : decode cX12_savedBy 132 = .ok (.iload 6, 2) := by decide +kernel
theorem dX12_savedBy_134 : decode cX12_savedBy 134 = .ok (.iaload, 1) := by decide +kernel
theorem dX12_savedBy_135 : decode cX12_savedBy 135 = .ok (.ifCond .le 7, 3) := by decide +kernel
theorem dX12_savedBy_138 : decode cX12_savedBy 138 = .ok (.iconst 1, 1) := by decide +kernel
theorem dX12_savedBy_139 : decode cX12_savedBy 139 = .ok (.goto 4, 3) := by decide +kernel
theorem dX12_savedBy_142 : decode cX12_savedBy 142 = .ok (.iconst 0, 1) := by decide +kernel
theorem dX12_savedBy_143 : decode cX12_savedBy 143 = .ok (.istore 4, 2) := by decide +kernel
theorem dX12_savedBy_145 : decode cX12_savedBy 145 = .ok (.aload_n 0, 1) := by decide +kernel
theorem dX12_savedBy_146 : decode cX12_savedBy 146 = .ok (.getfield 33, 3) := by decide +kernel
theorem dX12_savedBy_149 : decode cX12_savedBy 149 = .ok (.iload 6, 2) := by decide +kernel
theorem dX12_savedBy_151 : decode cX12_savedBy 151 = .ok (.dup2, 1) := by decide +kernel
theorem dX12_savedBy_152 : decode cX12_savedBy 152 = .ok (.iaload, 1) := by decide +kernel
theorem dX12_savedBy_153 : decode cX12_savedBy 153 = .ok (.iconst 1, 1) := by decide +kernel
theorem dX12_savedBy_154 : decode cX12_savedBy 154 = .ok (.isub, 1) := by decide +kernel
theorem dX12_savedBy_155 : decode cX12_savedBy 155 = .ok (.iastore, 1) := by decide +kernel
theorem dX12_savedBy_156 : decode cX12_savedBy 156 = .ok (.iload_n 3, 1) := by decide +kernel
theorem dX12_savedBy_157 : decode cX12_savedBy 157 = .ok (.aload_n 0, 1) := by decide +kernel
theorem dX12_savedBy_158 : decode cX12_savedBy 158 = .ok (.iload 5, 2) := by decide +kernel
theorem dX12_savedBy_160 : decode cX12_savedBy 160 = .ok (.invokevirtual 137, 3) := by decide +kernel
theorem dX12_savedBy_163 : decode cX12_savedBy 163 = .ok (.iadd, 1) := by decide +kernel
theorem dX12_savedBy_164 : decode cX12_savedBy 164 = .ok (.istore_n 3, 1) := by decide +kernel
theorem dX12_savedBy_165 : decode cX12_savedBy 165 = .ok (.iinc 5 (-1), 3) := by decide +kernel
theorem dX12_savedBy_168 : decode cX12_savedBy 168 = .ok (.goto (-149), 3) := by decide +kernel
theorem dX12_savedBy_171 : decode cX12_savedBy 171 = .ok (.iload 4, 2) := by decide +kernel
theorem dX12_savedBy_173 : decode cX12_savedBy 173 = .ok (.ifCond .eq 7, 3) := by decide +kernel
theorem dX12_savedBy_176 : decode cX12_savedBy 176 = .ok (.iload_n 3, 1) := by decide +kernel
theorem dX12_savedBy_177 : decode cX12_savedBy 177 = .ok (.goto 4, 3) := by decide +kernel
theorem dX12_savedBy_180 : decode cX12_savedBy 180 = .ok (.iconst (-1), 1) := by decide +kernel
theorem dX12_savedBy_181 : decode cX12_savedBy 181 = .ok (.ireturn, 1) := by decide +kernel
theorem dX12_codes_0 : decode cX12_codes 0 = .ok (.iconst 1, 1) := by decide +kernel
theorem dX12_codes_1 : decode cX12_codes 1 = .ok (.istore_n 1, 1) := by decide +kernel
theorem dX12_codes_2 : decode cX12_codes 2 = .ok (.iconst 0, 1) := by decide +kernel
theorem dX12_codes_3 : decode cX12_codes 3 = .ok (.istore_n 2, 1) := by decide +kernel
theorem dX12_codes_4 : decode cX12_codes 4 = .ok (.iload_n 2, 1) := by decide +kernel
theorem dX12_codes_5 : decode cX12_codes 5 = .ok (.aload_n 0, 1) := by decide +kernel
theorem dX12_codes_6 : decode cX12_codes 6 = .ok (.invokevirtual 69, 3) := by decide +kernel
theorem dX12_codes_9 : decode cX12_codes 9 = .ok (.if_icmp .ge 14, 3) := by decide +kernel
theorem dX12_codes_12 : decode cX12_codes 12 = .ok (.iload_n 1, 1) := by decide +kernel
theorem dX12_codes_13 : decode cX12_codes 13 = .ok (.bipush 6, 2) := by decide +kernel
theorem dX12_codes_15 : decode cX12_codes 15 = .ok (.imul, 1) := by decide +kernel
theorem dX12_codes_16 : decode cX12_codes 16 = .ok (.istore_n 1, 1) := by decide +kernel
theorem dX12_codes_17 : decode cX12_codes 17 = .ok (.iinc 2 1, 3) := by decide +kernel
theorem dX12_codes_20 : decode cX12_codes 20 = .ok (.goto (-16), 3) := by decide +kernel
theorem dX12_codes_23 : decode cX12_codes 23 = .ok (.iload_n 1, 1) := by decide +kernel
theorem dX12_codes_24 : decode cX12_codes 24 = .ok (.ireturn, 1) := by decide +kernel
theorem dX12_all_0 : decode cX12_all 0 = .ok (.iload_n 1, 1) := by decide +kernel
theorem dX12_all_1 : decode cX12_all 1 = .ok (.i2l, 1) := by decide +kernel
theorem dX12_all_2 : decode cX12_all 2 = .ok (.ldc2_w 154, 3) := by decide +kernel
theorem dX12_all_5 : decode cX12_all 5 = .ok (.aload_n 0, 1) := by decide +kernel
theorem dX12_all_6 : decode cX12_all 6 = .ok (.invokevirtual 69, 3) := by decide +kernel
theorem dX12_all_9 : decode cX12_all 9 = .ok (.iconst 1, 1) := by decide +kernel
theorem dX12_all_10 : decode cX12_all 10 = .ok (.isub, 1) := by decide +kernel
theorem dX12_all_11 : decode cX12_all 11 = .ok (.i2l, 1) := by decide +kernel
theorem dX12_all_12 : decode cX12_all 12 = .ok (.invokestatic 65, 3) := by decide +kernel
theorem dX12_all_15 : decode cX12_all 15 = .ok (.ifCond .ne 10, 3) := by decide +kernel
theorem dX12_all_18 : decode cX12_all 18 = .ok (.aload_n 0, 1) := by decide +kernel
theorem dX12_all_19 : decode cX12_all 19 = .ok (.bipush (-10), 2) := by decide +kernel
theorem dX12_all_21 : decode cX12_all 21 = .ok (.invokevirtual 80, 3) := by decide +kernel
theorem dX12_all_24 : decode cX12_all 24 = .ok (.ireturn, 1) := by decide +kernel
theorem dX12_all_25 : decode cX12_all 25 = .ok (.iconst (-1), 1) := by decide +kernel
theorem dX12_all_26 : decode cX12_all 26 = .ok (.istore_n 2, 1) := by decide +kernel
theorem dX12_all_27 : decode cX12_all 27 = .ok (.iconst 0, 1) := by decide +kernel
theorem dX12_all_28 : decode cX12_all 28 = .ok (.istore_n 3, 1) := by decide +kernel
theorem dX12_all_29 : decode cX12_all 29 = .ok (.iload_n 3, 1) := by decide +kernel
theorem dX12_all_30 : decode cX12_all 30 = .ok (.aload_n 0, 1) := by decide +kernel
theorem dX12_all_31 : decode cX12_all 31 = .ok (.invokevirtual 156, 3) := by decide +kernel
theorem dX12_all_34 : decode cX12_all 34 = .ok (.if_icmp .ge 67, 3) := by decide +kernel
theorem dX12_all_37 : decode cX12_all 37 = .ok (.aload_n 0, 1) := by decide +kernel
theorem dX12_all_38 : decode cX12_all 38 = .ok (.iload_n 3, 1) := by decide +kernel
theorem dX12_all_39 : decode cX12_all 39 = .ok (.invokevirtual 159, 3) := by decide +kernel
theorem dX12_all_42 : decode cX12_all 42 = .ok (.istore 4, 2) := by decide +kernel
theorem dX12_all_44 : decode cX12_all 44 = .ok (.iconst 0, 1) := by decide +kernel
theorem dX12_all_45 : decode cX12_all 45 = .ok (.istore 5, 2) := by decide +kernel
theorem dX12_all_47 : decode cX12_all 47 = .ok (.iload 5, 2) := by decide +kernel
theorem dX12_all_49 : decode cX12_all 49 = .ok (.aload_n 0, 1) := by decide +kernel
theorem dX12_all_50 : decode cX12_all 50 = .ok (.invokevirtual 69, 3) := by decide +kernel
theorem dX12_all_53 : decode cX12_all 53 = .ok (.if_icmp .ge 29, 3) := by decide +kernel
theorem dX12_all_56 : decode cX12_all 56 = .ok (.iload 4, 2) := by decide +kernel
theorem dX12_all_58 : decode cX12_all 58 = .ok (.iload_n 2, 1) := by decide +kernel
theorem dX12_all_59 : decode cX12_all 59 = .ok (.if_icmp .le 23, 3) := by decide +kernel
theorem dX12_all_62 : decode cX12_all 62 = .ok (.aload_n 0, 1) := by decide +kernel
theorem dX12_all_63 : decode cX12_all 63 = .ok (.getfield 30, 3) := by decide +kernel
theorem dX12_all_66 : decode cX12_all 66 = .ok (.iload 5, 2) := by decide +kernel
theorem dX12_all_68 : decode cX12_all 68 = .ok (.aload_n 0, 1) := by decide +kernel
theorem dX12_all_69 : decode cX12_all 69 = .ok (.getfield 27, 3) := by decide +kernel
theorem dX12_all_72 : decode cX12_all 72 = .ok (.iload 5, 2) := by decide +kernel
theorem dX12_all_74 : decode cX12_all 74 = .ok (.iaload, 1) := by decide +kernel
theorem dX12_all_75 : decode cX12_all 75 = .ok (.iastore, 1) := by decide +kernel
theorem dX12_all_76 : decode cX12_all 76 = .ok (.iinc 5 1, 3) := by decide +kernel
theorem dX12_all_79 : decode cX12_all 79 = .ok (.goto (-32), 3) := by decide +kernel
theorem dX12_all_82 : decode cX12_all 82 = .ok (.iload 4, 2) := by decide +kernel
theorem dX12_all_84 : decode cX12_all 84 = .ok (.iload_n 2, 1) := by decide +kernel
theorem dX12_all_85 : decode cX12_all 85 = .ok (.if_icmp .le 8, 3) := by decide +kernel
theorem dX12_all_88 : decode cX12_all 88 = .ok (.iload 4, 2) := by decide +kernel
theorem dX12_all_90 : decode cX12_all 90 = .ok (.goto 4, 3) := by decide +kernel
theorem dX12_all_93 : decode cX12_all 93 = .ok (.iload_n 2, 1) := by decide +kernel
theorem dX12_all_94 : decode cX12_all 94 = .ok (.istore_n 2, 1) := by decide +kernel
theorem dX12_all_95 : decode cX12_all 95 = .ok (.iinc 3 1, 3) := by decide +kernel
theorem dX12_all_98 : decode cX12_all 98 = .ok (.goto (-69), 3) := by decide +kernel
theorem dX12_all_101 : decode cX12_all 101 = .ok (.iload_n 1, 1) := by decide +kernel
theorem dX12_all_102 : decode cX12_all 102 = .ok (.iconst (-1), 1) := by decide +kernel
theorem dX12_all_103 : decode cX12_all 103 = .ok (.if_icmp .ne 7, 3) := by decide +kernel
theorem dX12_all_106 : decode cX12_all 106 = .ok (.iload_n 2, 1) := by decide +kernel
theorem dX12_all_107 : decode cX12_all 107 = .ok (.goto 9, 3) := by decide +kernel
theorem dX12_all_110 : decode cX12_all 110 = .ok (.aload_n 0, 1) := by decide +kernel
theorem dX12_all_111 : decode cX12_all 111 = .ok (.getfield 30, 3) := by decide +kernel
theorem dX12_all_114 : decode cX12_all 114 = .ok (.iload_n 1, 1) := by decide +kernel
theorem dX12_all_115 : decode cX12_all 115 = .ok (.iaload, 1) := by decide +kernel
theorem dX12_all_116 : decode cX12_all 116 = .ok (.ireturn, 1) := by decide +kernel
theorem dX12_fewest_0 : decode cX12_fewest 0 = .ok (.iconst (-1), 1) := by decide +kernel
theorem dX12_fewest_1 : decode cX12_fewest 1 = .ok (.istore_n 1, 1) := by decide +kernel
theorem dX12_fewest_2 : decode cX12_fewest 2 = .ok (.iconst 0, 1) := by decide +kernel
theorem dX12_fewest_3 : decode cX12_fewest 3 = .ok (.istore_n 2, 1) := by decide +kernel
theorem dX12_fewest_4 : decode cX12_fewest 4 = .ok (.iload_n 2, 1) := by decide +kernel
theorem dX12_fewest_5 : decode cX12_fewest 5 = .ok (.aload_n 0, 1) := by decide +kernel
theorem dX12_fewest_6 : decode cX12_fewest 6 = .ok (.invokevirtual 156, 3) := by decide +kernel
theorem dX12_fewest_9 : decode cX12_fewest 9 = .ok (.if_icmp .ge 150, 3) := by decide +kernel
theorem dX12_fewest_12 : decode cX12_fewest 12 = .ok (.iconst 0, 1) := by decide +kernel
theorem dX12_fewest_13 : decode cX12_fewest 13 = .ok (.istore_n 3, 1) := by decide +kernel
theorem dX12_fewest_14 : decode cX12_fewest 14 = .ok (.aload_n 0, 1) := by decide +kernel
theorem dX12_fewest_15 : decode cX12_fewest 15 = .ok (.iload_n 2, 1) := by decide +kernel
theorem dX12_fewest_16 : decode cX12_fewest 16 = .ok (.invokevirtual 159, 3) := by decide +kernel
theorem dX12_fewest_19 : decode cX12_fewest 19 = .ok (.iconst (-1), 1) := by decide +kernel
theorem dX12_fewest_20 : decode cX12_fewest 20 = .ok (.if_icmp .eq 7, 3) := by decide +kernel
theorem dX12_fewest_23 : decode cX12_fewest 23 = .ok (.iconst 1, 1) := by decide +kernel
theorem dX12_fewest_24 : decode cX12_fewest 24 = .ok (.goto 4, 3) := by decide +kernel
theorem dX12_fewest_27 : decode cX12_fewest 27 = .ok (.iconst 0, 1) := by decide +kernel
theorem dX12_fewest_28 : decode cX12_fewest 28 = .ok (.istore 4, 2) := by decide +kernel
theorem dX12_fewest_30 : decode cX12_fewest 30 = .ok (.iconst 0, 1) := by decide +kernel
theorem dX12_fewest_31 : decode cX12_fewest 31 = .ok (.istore 5, 2) := by decide +kernel
theorem dX12_fewest_33 : decode cX12_fewest 33 = .ok (.iload 5, 2) := by decide +kernel
theorem dX12_fewest_35 : decode cX12_fewest 35 = .ok (.aload_n 0, 1) := by decide +kernel
theorem dX12_fewest_36 : decode cX12_fewest 36 = .ok (.invokevirtual 69, 3) := by decide +kernel
theorem dX12_fewest_39 : decode cX12_fewest 39 = .ok (.if_icmp .ge 59, 3) := by decide +kernel
theorem dX12_fewest_42 : decode cX12_fewest 42 = .ok (.iload 4, 2) := by decide +kernel
theorem dX12_fewest_44 : decode cX12_fewest 44 = .ok (.ifCond .eq 18, 3) := by decide +kernel
theorem dX12_fewest_47 : decode cX12_fewest 47 = .ok (.aload_n 0, 1) := by decide +kernel
theorem dX12_fewest_48 : decode cX12_fewest 48 = .ok (.getfield 27, 3) := by decide +kernel
theorem dX12_fewest_51 : decode cX12_fewest 51 = .ok (.iload 5, 2) := by decide +kernel
theorem dX12_fewest_53 : decode cX12_fewest 53 = .ok (.iaload, 1) := by decide +kernel
theorem dX12_fewest_54 : decode cX12_fewest 54 = .ok (.iconst 5, 1) := by decide +kernel
theorem dX12_fewest_55 : decode cX12_fewest 55 = .ok (.if_icmp .eq 7, 3) := by decide +kernel
theorem dX12_fewest_58 : decode cX12_fewest 58 = .ok (.iconst 1, 1) := by decide +kernel
theorem dX12_fewest_59 : decode cX12_fewest 59 = .ok (.goto 4, 3) := by decide +kernel
theorem dX12_fewest_62 : decode cX12_fewest 62 = .ok (.iconst 0, 1) := by decide +kernel
theorem dX12_fewest_63 : decode cX12_fewest 63 = .ok (.istore 4, 2) := by decide +kernel
theorem dX12_fewest_65 : decode cX12_fewest 65 = .ok (.iload_n 3, 1) := by decide +kernel
theorem dX12_fewest_66 : decode cX12_fewest 66 = .ok (.aload_n 0, 1) := by decide +kernel
theorem dX12_fewest_67 : decode cX12_fewest 67 = .ok (.getfield 27, 3) := by decide +kernel
theorem dX12_fewest_70 : decode cX12_fewest 70 = .ok (.iload 5, 2) := by decide +kernel
theorem dX12_fewest_72 : decode cX12_fewest 72 = .ok (.iaload, 1) := by decide +kernel
theorem dX12_fewest_73 : decode cX12_fewest 73 = .ok (.iconst 5, 1) := by decide +kernel
theorem dX12_fewest_74 : decode cX12_fewest 74 = .ok (.if_icmp .ge 15, 3) := by decide +kernel
theorem dX12_fewest_77 : decode cX12_fewest 77 = .ok (.iconst 1, 1) := by decide +kernel
theorem dX12_fewest_78 : decode cX12_fewest 78 = .ok (.aload_n 0, 1) := by decide +kernel
theorem dX12_fewest_79 : decode cX12_fewest 79 = .ok (.getfield 27, 3) := by decide +kernel
theorem dX12_fewest_82 : decode cX12_fewest 82 = .ok (.iload 5, 2) := by decide +kernel
theorem dX12_fewest_84 : decode cX12_fewest 84 = .ok (.iaload, 1) := by decide +kernel
theorem dX12_fewest_85 : decode cX12_fewest 85 = .ok (.ishl, 1) := by decide +kernel
theorem dX12_fewest_86 : decode cX12_fewest 86 = .ok (.goto 4, 3) := by decide +kernel
theorem dX12_fewest_89 : decode cX12_fewest 89 = .ok (.iconst 0, 1) := by decide +kernel
theorem dX12_fewest_90 : decode cX12_fewest 90 = .ok (.ior, 1) := by decide +kernel
theorem dX12_fewest_91 : decode cX12_fewest 91 = .ok (.istore_n 3, 1) := by decide +kernel
theorem dX12_fewest_92 : decode cX12_fewest 92 = .ok (.iinc 5 1, 3) := by decide +kernel
theorem dX12_fewest_95 : decode cX12_fewest 95 = .ok (.goto (-62), 3) := by decide +kernel
theorem dX12_fewest_98 : decode cX12_fewest 98 = .ok (.iload_n 1, 1) := by decide +kernel
theorem dX12_fewest_99 : decode cX12_fewest 99 = .ok (.iconst (-1), 1) := by decide +kernel
theorem dX12_fewest_100 : decode cX12_fewest 100 = .ok (.if_icmp .eq 30, 3) := by decide +kernel
theorem dX12_fewest_103 : decode cX12_fewest 103 = .ok (.iload_n 3, 1) := by decide +kernel
theorem dX12_fewest_104 : decode cX12_fewest 104 = .ok (.invokestatic 162, 3) := by decide +kernel
theorem dX12_fewest_107 : decode cX12_fewest 107 = .ok (.iload_n 1, 1) := by decide +kernel
theorem dX12_fewest_108 : decode cX12_fewest 108 = .ok (.invokestatic 162, 3) := by decide +kernel
theorem dX12_fewest_111 : decode cX12_fewest 111 = .ok (.if_icmp .lt 19, 3) := by decide +kernel
theorem dX12_fewest_114 : decode cX12_fewest 114 = .ok (.iload_n 3, 1) := by decide +kernel
theorem dX12_fewest_115 : decode cX12_fewest 115 = .ok (.invokestatic 162, 3) := by decide +kernel
theorem dX12_fewest_118 : decode cX12_fewest 118 = .ok (.iload_n 1, 1) := by decide +kernel
theorem dX12_fewest_119 : decode cX12_fewest 119 = .ok (.invokestatic 162, 3) := by decide +kernel
theorem dX12_fewest_122 : decode cX12_fewest 122 = .ok (.if_icmp .ne 12, 3) := by decide +kernel
theorem dX12_fewest_125 : decode cX12_fewest 125 = .ok (.iload_n 3, 1) := by decide +kernel
theorem dX12_fewest_126 : decode cX12_fewest 126 = .ok (.iload_n 1, 1) := by decide +kernel
theorem dX12_fewest_127 : decode cX12_fewest 127 = .ok (.if_icmp .ge 7, 3) := by decide +kernel
theorem dX12_fewest_130 : decode cX12_fewest 130 = .ok (.iconst 1, 1) := by decide +kernel
theorem dX12_fewest_131 : decode cX12_fewest 131 = .ok (.goto 4, 3) := by decide +kernel
theorem dX12_fewest_134 : decode cX12_fewest 134 = .ok (.iconst 0, 1) := by decide +kernel
theorem dX12_fewest_135 : decode cX12_fewest 135 = .ok (.istore 5, 2) := by decide +kernel
theorem dX12_fewest_137 : decode cX12_fewest 137 = .ok (.iload 4, 2) := by decide +kernel
theorem dX12_fewest_139 : decode cX12_fewest 139 = .ok (.ifCond .eq 12, 3) := by decide +kernel
theorem dX12_fewest_142 : decode cX12_fewest 142 = .ok (.iload 5, 2) := by decide +kernel
theorem dX12_fewest_144 : decode cX12_fewest 144 = .ok (.ifCond .eq 7, 3) := by decide +kernel
theorem dX12_fewest_147 : decode cX12_fewest 147 = .ok (.iload_n 3, 1) := by decide +kernel
theorem dX12_fewest_148 : decode cX12_fewest 148 = .ok (.goto 4, 3) := by decide +kernel
theorem dX12_fewest_151 : decode cX12_fewest 151 = .ok (.iload_n 1, 1) := by decide +kernel
theorem dX12_fewest_152 : decode cX12_fewest 152 = .ok (.istore_n 1, 1) := by decide +kernel
theorem dX12_fewest_153 : decode cX12_fewest 153 = .ok (.iinc 2 1, 3) := by decide +kernel
theorem dX12_fewest_156 : decode cX12_fewest 156 = .ok (.goto (-152), 3) := by decide +kernel
theorem dX12_fewest_159 : decode cX12_fewest 159 = .ok (.iload_n 1, 1) := by decide +kernel
theorem dX12_fewest_160 : decode cX12_fewest 160 = .ok (.ireturn, 1) := by decide +kernel
theorem dX12_worthAt_0 : decode cX12_worthAt 0 = .ok (.iconst 0, 1) := by decide +kernel
theorem dX12_worthAt_1 : decode cX12_worthAt 1 = .ok (.istore_n 3, 1) := by decide +kernel
theorem dX12_worthAt_2 : decode cX12_worthAt 2 = .ok (.aload_n 0, 1) := by decide +kernel
theorem dX12_worthAt_3 : decode cX12_worthAt 3 = .ok (.getfield 7, 3) := by decide +kernel
theorem dX12_worthAt_6 : decode cX12_worthAt 6 = .ok (.bipush 24, 2) := by decide +kernel
theorem dX12_worthAt_8 : decode cX12_worthAt 8 = .ok (.iload_n 1, 1) := by decide +kernel
theorem dX12_worthAt_9 : decode cX12_worthAt 9 = .ok (.iadd, 1) := by decide +kernel
theorem dX12_worthAt_10 : decode cX12_worthAt 10 = .ok (.iaload, 1) := by decide +kernel
theorem dX12_worthAt_11 : decode cX12_worthAt 11 = .ok (.istore 4, 2) := by decide +kernel
theorem dX12_worthAt_13 : decode cX12_worthAt 13 = .ok (.iconst 0, 1) := by decide +kernel
theorem dX12_worthAt_14 : decode cX12_worthAt 14 = .ok (.istore 5, 2) := by decide +kernel
theorem dX12_worthAt_16 : decode cX12_worthAt 16 = .ok (.iload 5, 2) := by decide +kernel
theorem dX12_worthAt_18 : decode cX12_worthAt 18 = .ok (.aload_n 0, 1) := by decide +kernel
theorem dX12_worthAt_19 : decode cX12_worthAt 19 = .ok (.invokevirtual 69, 3) := by decide +kernel
theorem dX12_worthAt_22 : decode cX12_worthAt 22 = .ok (.if_icmp .ge 116, 3) := by decide +kernel
theorem dX12_worthAt_25 : decode cX12_worthAt 25 = .ok (.aload_n 0, 1) := by decide +kernel
theorem dX12_worthAt_26 : decode cX12_worthAt 26 = .ok (.iload 5, 2) := by decide +kernel
theorem dX12_worthAt_28 : decode cX12_worthAt 28 = .ok (.invokevirtual 134, 3) := by decide +kernel
theorem dX12_worthAt_31 : decode cX12_worthAt 31 = .ok (.ifCond .eq 101, 3) := by decide +kernel
theorem dX12_worthAt_34 : decode cX12_worthAt 34 = .ok (.aload_n 0, 1) := by decide +kernel
theorem dX12_worthAt_35 : decode cX12_worthAt 35 = .ok (.iload 5, 2) := by decide +kernel
theorem dX12_worthAt_37 : decode cX12_worthAt 37 = .ok (.iconst 0, 1) := by decide +kernel
theorem dX12_worthAt_38 : decode cX12_worthAt 38 = .ok (.invokevirtual 145, 3) := by decide +kernel
theorem dX12_worthAt_41 : decode cX12_worthAt 41 = .ok (.iload_n 2, 1) := by decide +kernel
theorem dX12_worthAt_42 : decode cX12_worthAt 42 = .ok (.invokestatic 97, 3) := by decide +kernel
theorem dX12_worthAt_45 : decode cX12_worthAt 45 = .ok (.iload 4, 2) := by decide +kernel
theorem dX12_worthAt_47 : decode cX12_worthAt 47 = .ok (.invokestatic 105, 3) := by decide +kernel
theorem dX12_worthAt_50 : decode cX12_worthAt 50 = .ok (.if_icmp .gt 82, 3) := by decide +kernel
theorem dX12_worthAt_53 : decode cX12_worthAt 53 = .ok (.aload_n 0, 1) := by decide +kernel
theorem dX12_worthAt_54 : decode cX12_worthAt 54 = .ok (.iload 5, 2) := by decide +kernel
theorem dX12_worthAt_56 : decode cX12_worthAt 56 = .ok (.iconst 2, 1) := by decide +kernel
theorem dX12_worthAt_57 : decode cX12_worthAt 57 = .ok (.invokevirtual 145, 3) := by decide +kernel
theorem dX12_worthAt_60 : decode cX12_worthAt 60 = .ok (.iload 4, 2) := by decide +kernel
theorem dX12_worthAt_62 : decode cX12_worthAt 62 = .ok (.invokestatic 111, 3) := by decide +kernel
theorem dX12_worthAt_65 : decode cX12_worthAt 65 = .ok (.if_icmp .gt 67, 3) := by decide +kernel
theorem dX12_worthAt_68 : decode cX12_worthAt 68 = .ok (.iload_n 3, 1) := by decide +kernel
theorem dX12_worthAt_69 : decode cX12_worthAt 69 = .ok (.istore 6, 2) := by decide +kernel
theorem dX12_worthAt_71 : decode cX12_worthAt 71 = .ok (.iload 6, 2) := by decide +kernel
theorem dX12_worthAt_73 : decode cX12_worthAt 73 = .ok (.ifCond .le 43, 3) := by decide +kernel
theorem dX12_worthAt_76 : decode cX12_worthAt 76 = .ok (.aload_n 0, 1) := by decide +kernel
theorem dX12_worthAt_77 : decode cX12_worthAt 77 = .ok (.getfield 36, 3) := by decide +kernel
theorem dX12_worthAt_80 : decode cX12_worthAt 80 = .ok (.iload 6, 2) := by decide +kernel
theorem dX12_worthAt_82 : decode cX12_worthAt 82 = .ok (.iconst 1, 1) := by decide +kernel
theorem dX12_worthAt_83 : decode cX12_worthAt 83 = .ok (.isub, 1) := by decide +kernel
theorem dX12_worthAt_84 : decode cX12_worthAt 84 = .ok (.iaload, 1) := by decide +kernel
theorem dX12_worthAt_85 : decode cX12_worthAt 85 = .ok (.aload_n 0, 1) := by decide +kernel
theorem dX12_worthAt_86 : decode cX12_worthAt 86 = .ok (.iload 5, 2) := by decide +kernel
theorem dX12_worthAt_88 : decode cX12_worthAt 88 = .ok (.invokevirtual 137, 3) := by decide +kernel
theorem dX12_worthAt_91 : decode cX12_worthAt 91 = .ok (.if_icmp .ge 25, 3) := by decide +kernel
theorem dX12_worthAt_94 : decode cX12_worthAt 94 = .ok (.aload_n 0, 1) := by decide +kernel
theorem dX12_worthAt_95 : decode cX12_worthAt 95 = .ok (.getfield 36, 3) := by decide +kernel
theorem dX12_worthAt_98 : decode cX12_worthAt 98 = .ok (.iload 6, 2) := by decide +kernel
theorem dX12_worthAt_100 : decode cX12_worthAt 100 = .ok (.aload_n 0, 1) := by decide +kernel
theorem dX12_worthAt_101 : decode cX12_worthAt 101 = .ok (.getfield 36, 3) := by decide +kernel
theorem dX12_worthAt_104 : decode cX12_worthAt 104 = .ok (.iload 6, 2) := by decide +kernel
theorem dX12_worthAt_106 : decode cX12_worthAt 106 = .ok (.iconst 1, 1) := by decide +kernel
theorem dX12_worthAt_107 : decode cX12_worthAt 107 = .ok (.isub, 1) := by decide +kernel
theorem dX12_worthAt_108 : decode cX12_worthAt 108 = .ok (.iaload, 1) := by decide +kernel
theorem dX12_worthAt_109 : decode cX12_worthAt 109 = .ok (.iastore, 1) := by decide +kernel
theorem dX12_worthAt_110 : decode cX12_worthAt 110 = .ok (.iinc 6 (-1), 3) := by decide +kernel
theorem dX12_worthAt_113 : decode cX12_worthAt 113 = .ok (.goto (-42), 3) := by decide +kernel
theorem dX12_worthAt_116 : decode cX12_worthAt 116 = .ok (.aload_n 0, 1) := by decide +kernel
theorem dX12_worthAt_117 : decode cX12_worthAt 117 = .ok (.getfield 36, 3) := by decide +kernel
theorem dX12_worthAt_120 : decode cX12_worthAt 120 = .ok (.iload 6, 2) := by decide +kernel
theorem dX12_worthAt_122 : decode cX12_worthAt 122 = .ok (.aload_n 0, 1) := by decide +kernel
theorem dX12_worthAt_123 : decode cX12_worthAt 123 = .ok (.iload 5, 2) := by decide +kernel
theorem dX12_worthAt_125 : decode cX12_worthAt 125 = .ok (.invokevirtual 137, 3) := by decide +kernel
theorem dX12_worthAt_128 : decode cX12_worthAt 128 = .ok (.iastore, 1) := by decide +kernel
theorem dX12_worthAt_129 : decode cX12_worthAt 129 = .ok (.iinc 3 1, 3) := by decide +kernel
theorem dX12_worthAt_132 : decode cX12_worthAt 132 = .ok (.iinc 5 1, 3) := by decide +kernel
theorem dX12_worthAt_135 : decode cX12_worthAt 135 = .ok (.goto (-119), 3) := by decide +kernel
theorem dX12_worthAt_138 : decode cX12_worthAt 138 = .ok (.iconst 0, 1) := by decide +kernel
theorem dX12_worthAt_139 : decode cX12_worthAt 139 = .ok (.istore 5, 2) := by decide +kernel
theorem dX12_worthAt_141 : decode cX12_worthAt 141 = .ok (.iconst 0, 1) := by decide +kernel
theorem dX12_worthAt_142 : decode cX12_worthAt 142 = .ok (.istore 6, 2) := by decide +kernel
theorem dX12_worthAt_144 : decode cX12_worthAt 144 = .ok (.iload 6, 2) := by decide +kernel
theorem dX12_worthAt_146 : decode cX12_worthAt 146 = .ok (.iload_n 3, 1) := by decide +kernel
theorem dX12_worthAt_147 : decode cX12_worthAt 147 = .ok (.if_icmp .ge 48, 3) := by decide +kernel
theorem dX12_worthAt_150 : decode cX12_worthAt 150 = .ok (.iload 6, 2) := by decide +kernel
theorem dX12_worthAt_152 : decode cX12_worthAt 152 = .ok (.iload 4, 2) := by decide +kernel
theorem dX12_worthAt_154 : decode cX12_worthAt 154 = .ok (.aload_n 0, 1) := by decide +kernel
theorem dX12_worthAt_155 : decode cX12_worthAt 155 = .ok (.getfield 7, 3) := by decide +kernel
theorem dX12_worthAt_158 : decode cX12_worthAt 158 = .ok (.bipush 23, 2) := by decide +kernel
theorem dX12_worthAt_160 : decode cX12_worthAt 160 = .ok (.iaload, 1) := by decide +kernel
theorem dX12_worthAt_161 : decode cX12_worthAt 161 = .ok (.invokestatic 108, 3) := by decide +kernel
theorem dX12_worthAt_164 : decode cX12_worthAt 164 = .ok (.aload_n 0, 1) := by decide +kernel
theorem dX12_worthAt_165 : decode cX12_worthAt 165 = .ok (.getfield 7, 3) := by decide +kernel
theorem dX12_worthAt_168 : decode cX12_worthAt 168 = .ok (.bipush 11, 2) := by decide +kernel
theorem dX12_worthAt_170 : decode cX12_worthAt 170 = .ok (.iload_n 1, 1) := by decide +kernel
theorem dX12_worthAt_171 : decode cX12_worthAt 171 = .ok (.iadd, 1) := by decide +kernel
theorem dX12_worthAt_172 : decode cX12_worthAt 172 = .ok (.iaload, 1) := by decide +kernel
theorem dX12_worthAt_173 : decode cX12_worthAt 173 = .ok (.isub, 1) := by decide +kernel
theorem dX12_worthAt_174 : decode cX12_worthAt 174 = .ok (.if_icmp .ge 21, 3) := by decide +kernel
theorem dX12_worthAt_177 : decode cX12_worthAt 177 = .ok (.iload 5, 2) := by decide +kernel
theorem dX12_worthAt_179 : decode cX12_worthAt 179 = .ok (.aload_n 0, 1) := by decide +kernel
theorem dX12_worthAt_180 : decode cX12_worthAt 180 = .ok (.getfield 36, 3) := by decide +kernel
theorem dX12_worthAt_183 : decode cX12_worthAt 183 = .ok (.iload 6, 2) := by decide +kernel
theorem dX12_worthAt_185 : decode cX12_worthAt 185 = .ok (.iaload, 1) := by decide +kernel
theorem dX12_worthAt_186 : decode cX12_worthAt 186 = .ok (.iadd, 1) := by decide +kernel
theorem dX12_worthAt_187 : decode cX12_worthAt 187 = .ok (.istore 5, 2) := by decide +kernel
theorem dX12_worthAt_189 : decode cX12_worthAt 189 = .ok (.iinc 6 1, 3) := by decide +kernel
theorem dX12_worthAt_192 : decode cX12_worthAt 192 = .ok (.goto (-48), 3) := by decide +kernel
theorem dX12_worthAt_195 : decode cX12_worthAt 195 = .ok (.iload 5, 2) := by decide +kernel
theorem dX12_worthAt_197 : decode cX12_worthAt 197 = .ok (.ireturn, 1) := by decide +kernel
theorem dX12_stand_0 : decode cX12_stand 0 = .ok (.aload_n 0, 1) := by decide +kernel
theorem dX12_stand_1 : decode cX12_stand 1 = .ok (.iload_n 1, 1) := by decide +kernel
theorem dX12_stand_2 : decode cX12_stand 2 = .ok (.invokevirtual 117, 3) := by decide +kernel
theorem dX12_stand_5 : decode cX12_stand 5 = .ok (.ifCond .eq 13, 3) := by decide +kernel
theorem dX12_stand_8 : decode cX12_stand 8 = .ok (.iload_n 2, 1) := by decide +kernel
theorem dX12_stand_9 : decode cX12_stand 9 = .ok (.i2l, 1) := by decide +kernel
theorem dX12_stand_10 : decode cX12_stand 10 = .ok (.lconst 0, 1) := by decide +kernel
theorem dX12_stand_11 : decode cX12_stand 11 = .ok (.lconst 1, 1) := by decide +kernel
theorem dX12_stand_12 : decode cX12_stand 12 = .ok (.invokestatic 65, 3) := by decide +kernel
theorem dX12_stand_15 : decode cX12_stand 15 = .ok (.ifCond .ne 10, 3) := by decide +kernel
theorem dX12_stand_18 : decode cX12_stand 18 = .ok (.aload_n 0, 1) := by decide +kernel
theorem dX12_stand_19 : decode cX12_stand 19 = .ok (.bipush (-2), 2) := by decide +kernel
theorem dX12_stand_21 : decode cX12_stand 21 = .ok (.invokevirtual 80, 3) := by decide +kernel
theorem dX12_stand_24 : decode cX12_stand 24 = .ok (.ireturn, 1) := by decide +kernel
theorem dX12_stand_25 : decode cX12_stand 25 = .ok (.iconst 0, 1) := by decide +kernel
theorem dX12_stand_26 : decode cX12_stand 26 = .ok (.istore_n 3, 1) := by decide +kernel
theorem dX12_stand_27 : decode cX12_stand 27 = .ok (.iconst (-1), 1) := by decide +kernel
theorem dX12_stand_28 : decode cX12_stand 28 = .ok (.istore 4, 2) := by decide +kernel
theorem dX12_stand_30 : decode cX12_stand 30 = .ok (.iconst 0, 1) := by decide +kernel
theorem dX12_stand_31 : decode cX12_stand 31 = .ok (.istore 5, 2) := by decide +kernel
theorem dX12_stand_33 : decode cX12_stand 33 = .ok (.iload 5, 2) := by decide +kernel
theorem dX12_stand_35 : decode cX12_stand 35 = .ok (.bipush 100, 2) := by decide +kernel
theorem dX12_stand_37 : decode cX12_stand 37 = .ok (.if_icmp .ge 48, 3) := by decide +kernel
theorem dX12_stand_40 : decode cX12_stand 40 = .ok (.aload_n 0, 1) := by decide +kernel
theorem dX12_stand_41 : decode cX12_stand 41 = .ok (.iload_n 1, 1) := by decide +kernel
theorem dX12_stand_42 : decode cX12_stand 42 = .ok (.iload 5, 2) := by decide +kernel
theorem dX12_stand_44 : decode cX12_stand 44 = .ok (.invokevirtual 165, 3) := by decide +kernel
theorem dX12_stand_47 : decode cX12_stand 47 = .ok (.istore 6, 2) := by decide +kernel
theorem dX12_stand_49 : decode cX12_stand 49 = .ok (.iload 6, 2) := by decide +kernel
theorem dX12_stand_51 : decode cX12_stand 51 = .ok (.iload 4, 2) := by decide +kernel
theorem dX12_stand_53 : decode cX12_stand 53 = .ok (.if_icmp .le 8, 3) := by decide +kernel
theorem dX12_stand_56 : decode cX12_stand 56 = .ok (.iload 5, 2) := by decide +kernel
theorem dX12_stand_58 : decode cX12_stand 58 = .ok (.goto 4, 3) := by decide +kernel
theorem dX12_stand_61 : decode cX12_stand 61 = .ok (.iload_n 3, 1) := by decide +kernel
theorem dX12_stand_62 : decode cX12_stand 62 = .ok (.istore_n 3, 1) := by decide +kernel
theorem dX12_stand_63 : decode cX12_stand 63 = .ok (.iload 6, 2) := by decide +kernel
theorem dX12_stand_65 : decode cX12_stand 65 = .ok (.iload 4, 2) := by decide +kernel
theorem dX12_stand_67 : decode cX12_stand 67 = .ok (.if_icmp .le 8, 3) := by decide +kernel
theorem dX12_stand_70 : decode cX12_stand 70 = .ok (.iload 6, 2) := by decide +kernel
theorem dX12_stand_72 : decode cX12_stand 72 = .ok (.goto 5, 3) := by decide +kernel
theorem dX12_stand_75 : decode cX12_stand 75 = .ok (.iload 4, 2) := by decide +kernel
theorem dX12_stand_77 : decode cX12_stand 77 = .ok (.istore 4, 2) := by decide +kernel
theorem dX12_stand_79 : decode cX12_stand 79 = .ok (.iinc 5 1, 3) := by decide +kernel
theorem dX12_stand_82 : decode cX12_stand 82 = .ok (.goto (-49), 3) := by decide +kernel
theorem dX12_stand_85 : decode cX12_stand 85 = .ok (.iload_n 2, 1) := by decide +kernel
theorem dX12_stand_86 : decode cX12_stand 86 = .ok (.ifCond .ne 7, 3) := by decide +kernel
theorem dX12_stand_89 : decode cX12_stand 89 = .ok (.iload_n 3, 1) := by decide +kernel
theorem dX12_stand_90 : decode cX12_stand 90 = .ok (.goto 5, 3) := by decide +kernel
theorem dX12_stand_93 : decode cX12_stand 93 = .ok (.iload 4, 2) := by decide +kernel
theorem dX12_stand_95 : decode cX12_stand 95 = .ok (.ireturn, 1) := by decide +kernel
theorem dX12_fraction_0 : decode cX12_fraction 0 = .ok (.lload_n 1, 1) := by decide +kernel
theorem dX12_fraction_1 : decode cX12_fraction 1 = .ok (.lstore 5, 2) := by decide +kernel
theorem dX12_fraction_3 : decode cX12_fraction 3 = .ok (.lload_n 3, 1) := by decide +kernel
theorem dX12_fraction_4 : decode cX12_fraction 4 = .ok (.lstore 7, 2) := by decide +kernel
theorem dX12_fraction_6 : decode cX12_fraction 6 = .ok (.lload 7, 2) := by decide +kernel
theorem dX12_fraction_8 : decode cX12_fraction 8 = .ok (.lconst 0, 1) := by decide +kernel
theorem dX12_fraction_9 : decode cX12_fraction 9 = .ok (.lcmp, 1) := by decide +kernel
theorem dX12_fraction_10 : decode cX12_fraction 10 = .ok (.ifCond .eq 21, 3) := by decide +kernel
theorem dX12_fraction_13 : decode cX12_fraction 13 = .ok (.lload 5, 2) := by decide +kernel
theorem dX12_fraction_15 : decode cX12_fraction 15 = .ok (.lload 7, 2) := by decide +kernel
theorem dX12_fraction_17 : decode cX12_fraction 17 = .ok (.lrem, 1) := by decide +kernel
theorem dX12_fraction_18 : decode cX12_fraction 18 = .ok (.lstore 9, 2) := by decide +kernel
theorem dX12_fraction_20 : decode cX12_fraction 20 = .ok (.lload 7, 2) := by decide +kernel
theorem dX12_fraction_22 : decode cX12_fraction 22 = .ok (.lstore 5, 2) := by decide +kernel
theorem dX12_fraction_24 : decode cX12_fraction 24 = .ok (.lload 9, 2) := by decide +kernel
theorem dX12_fraction_26 : decode cX12_fraction 26 = .ok (.lstore 7, 2) := by decide +kernel
theorem dX12_fraction_28 : decode cX12_fraction 28 = .ok (.goto (-22), 3) := by decide +kernel
theorem dX12_fraction_31 : decode cX12_fraction 31 = .ok (.aload_n 0, 1) := by decide +kernel
theorem dX12_fraction_32 : decode cX12_fraction 32 = .ok (.lload_n 1, 1) := by decide +kernel
theorem dX12_fraction_33 : decode cX12_fraction 33 = .ok (.lload 5, 2) := by decide +kernel
theorem dX12_fraction_35 : decode cX12_fraction 35 = .ok (.ldiv, 1) := by decide +kernel
theorem dX12_fraction_36 : decode cX12_fraction 36 = .ok (.putfield 168, 3) := by decide +kernel
theorem dX12_fraction_39 : decode cX12_fraction 39 = .ok (.aload_n 0, 1) := by decide +kernel
theorem dX12_fraction_40 : decode cX12_fraction 40 = .ok (.lload_n 3, 1) := by decide +kernel
theorem dX12_fraction_41 : decode cX12_fraction 41 = .ok (.lload 5, 2) := by decide +kernel
theorem dX12_fraction_43 : decode cX12_fraction 43 = .ok (.ldiv, 1) := by decide +kernel
theorem dX12_fraction_44 : decode cX12_fraction 44 = .ok (.putfield 23, 3) := by decide +kernel
theorem dX12_fraction_47 : decode cX12_fraction 47 = .ok (.return_, 1) := by decide +kernel
theorem dX12_penny_0 : decode cX12_penny 0 = .ok (.iconst 0, 1) := by decide +kernel
theorem dX12_penny_1 : decode cX12_penny 1 = .ok (.istore_n 1, 1) := by decide +kernel
theorem dX12_penny_2 : decode cX12_penny 2 = .ok (.iconst 0, 1) := by decide +kernel
theorem dX12_penny_3 : decode cX12_penny 3 = .ok (.istore_n 2, 1) := by decide +kernel
theorem dX12_penny_4 : decode cX12_penny 4 = .ok (.iconst 0, 1) := by decide +kernel
theorem dX12_penny_5 : decode cX12_penny 5 = .ok (.istore_n 3, 1) := by decide +kernel
theorem dX12_penny_6 : decode cX12_penny 6 = .ok (.iload_n 3, 1) := by decide +kernel
theorem dX12_penny_7 : decode cX12_penny 7 = .ok (.aload_n 0, 1) := by decide +kernel
theorem dX12_penny_8 : decode cX12_penny 8 = .ok (.invokevirtual 69, 3) := by decide +kernel
theorem dX12_penny_11 : decode cX12_penny 11 = .ok (.if_icmp .ge 26, 3) := by decide +kernel
theorem dX12_penny_14 : decode cX12_penny 14 = .ok (.iload_n 1, 1) := by decide +kernel
theorem dX12_penny_15 : decode cX12_penny 15 = .ok (.aload_n 0, 1) := by decide +kernel
theorem dX12_penny_16 : decode cX12_penny 16 = .ok (.iload_n 3, 1) := by decide +kernel
theorem dX12_penny_17 : decode cX12_penny 17 = .ok (.invokevirtual 137, 3) := by decide +kernel
theorem dX12_penny_20 : decode cX12_penny 20 = .ok (.iadd, 1) := by decide +kernel
theorem dX12_penny_21 : decode cX12_penny 21 = .ok (.istore_n 1, 1) := by decide +kernel
theorem dX12_penny_22 : decode cX12_penny 22 = .ok (.iload_n 2, 1) := by decide +kernel
theorem dX12_penny_23 : decode cX12_penny 23 = .ok (.aload_n 0, 1) := by decide +kernel
theorem dX12_penny_24 : decode cX12_penny 24 = .ok (.iload_n 3, 1) := by decide +kernel
theorem dX12_penny_25 : decode cX12_penny 25 = .ok (.iconst 2, 1) := by decide +kernel
theorem dX12_penny_26 : decode cX12_penny 26 = .ok (.invokevirtual 145, 3) := by decide +kernel
theorem dX12_penny_29 : decode cX12_penny 29 = .ok (.iadd, 1) := by decide +kernel
theorem dX12_penny_30 : decode cX12_penny 30 = .ok (.istore_n 2, 1) := by decide +kernel
theorem dX12_penny_31 : decode cX12_penny 31 = .ok (.iinc 3 1, 3) := by decide +kernel
theorem dX12_penny_34 : decode cX12_penny 34 = .ok (.goto (-28), 3) := by decide +kernel
theorem dX12_penny_37 : decode cX12_penny 37 = .ok (.aload_n 0, 1) := by decide +kernel
theorem dX12_penny_38 : decode cX12_penny 38 = .ok (.iload_n 1, 1) := by decide +kernel
theorem dX12_penny_39 : decode cX12_penny 39 = .ok (.i2l, 1) := by decide +kernel
theorem dX12_penny_40 : decode cX12_penny 40 = .ok (.iload_n 2, 1) := by decide +kernel
theorem dX12_penny_41 : decode cX12_penny 41 = .ok (.ifCond .ne 7, 3) := by decide +kernel
theorem dX12_penny_44 : decode cX12_penny 44 = .ok (.lconst 1, 1) := by decide +kernel
theorem dX12_penny_45 : decode cX12_penny 45 = .ok (.goto 5, 3) := by decide +kernel
theorem dX12_penny_48 : decode cX12_penny 48 = .ok (.iload_n 2, 1) := by decide +kernel
theorem dX12_penny_49 : decode cX12_penny 49 = .ok (.i2l, 1) := by decide +kernel
theorem dX12_penny_50 : decode cX12_penny 50 = .ok (.invokevirtual 171, 3) := by decide +kernel
theorem dX12_penny_53 : decode cX12_penny 53 = .ok (.iconst 0, 1) := by decide +kernel
theorem dX12_penny_54 : decode cX12_penny 54 = .ok (.istore_n 3, 1) := by decide +kernel
theorem dX12_penny_55 : decode cX12_penny 55 = .ok (.iload_n 3, 1) := by decide +kernel
theorem dX12_penny_56 : decode cX12_penny 56 = .ok (.iload_n 2, 1) := by decide +kernel
theorem dX12_penny_57 : decode cX12_penny 57 = .ok (.imul, 1) := by decide +kernel
theorem dX12_penny_58 : decode cX12_penny 58 = .ok (.iload_n 1, 1) := by decide +kernel
theorem dX12_penny_59 : decode cX12_penny 59 = .ok (.if_icmp .ge 9, 3) := by decide +kernel
theorem dX12_penny_62 : decode cX12_penny 62 = .ok (.iinc 3 1, 3) := by decide +kernel
theorem dX12_penny_65 : decode cX12_penny 65 = .ok (.goto (-10), 3) := by decide +kernel
theorem dX12_penny_68 : decode cX12_penny 68 = .ok (.iload_n 3, 1) := by decide +kernel
theorem dX12_penny_69 : decode cX12_penny 69 = .ok (.ireturn, 1) := by decide +kernel
theorem dX12_cover_0 : decode cX12_cover 0 = .ok (.aload_n 0, 1) := by decide +kernel
theorem dX12_cover_1 : decode cX12_cover 1 = .ok (.iload_n 1, 1) := by decide +kernel
theorem dX12_cover_2 : decode cX12_cover 2 = .ok (.invokevirtual 117, 3) := by decide +kernel
theorem dX12_cover_5 : decode cX12_cover 5 = .ok (.ifCond .eq 22, 3) := by decide +kernel
theorem dX12_cover_8 : decode cX12_cover 8 = .ok (.iload_n 2, 1) := by decide +kernel
theorem dX12_cover_9 : decode cX12_cover 9 = .ok (.i2l, 1) := by decide +kernel
theorem dX12_cover_10 : decode cX12_cover 10 = .ok (.lconst 0, 1) := by decide +kernel
theorem dX12_cover_11 : decode cX12_cover 11 = .ok (.ldc2_w 72, 3) := by decide +kernel
theorem dX12_cover_14 : decode cX12_cover 14 = .ok (.invokestatic 65, 3) := by decide +kernel
theorem dX12_cover_17 : decode cX12_cover 17 = .ok (.ifCond .eq 10, 3) := by decide +kernel
theorem dX12_cover_20 : decode cX12_cover 20 = .ok (.iload_n 3, 1) := by decide +kernel
theorem dX12_cover_21 : decode cX12_cover 21 = .ok (.invokestatic 76, 3) := by decide +kernel
theorem dX12_cover_24 : decode cX12_cover 24 = .ok (.ifCond .ne 10, 3) := by decide +kernel
theorem dX12_cover_27 : decode cX12_cover 27 = .ok (.aload_n 0, 1) := by decide +kernel
theorem dX12_cover_28 : decode cX12_cover 28 = .ok (.bipush (-2), 2) := by decide +kernel
theorem dX12_cover_30 : decode cX12_cover 30 = .ok (.invokevirtual 80, 3) := by decide +kernel
theorem dX12_cover_33 : decode cX12_cover 33 = .ok (.ireturn, 1) := by decide +kernel
theorem dX12_cover_34 : decode cX12_cover 34 = .ok (.aload_n 0, 1) := by decide +kernel
theorem dX12_cover_35 : decode cX12_cover 35 = .ok (.getfield 7, 3) := by decide +kernel
theorem dX12_cover_38 : decode cX12_cover 38 = .ok (.iconst 2, 1) := by decide +kernel
theorem dX12_cover_39 : decode cX12_cover 39 = .ok (.iaload, 1) := by decide +kernel
theorem dX12_cover_40 : decode cX12_cover 40 = .ok (.bipush 6, 2) := by decide +kernel
theorem dX12_cover_42 : decode cX12_cover 42 = .ok (.if_icmp .ne 8, 3) := by decide +kernel
theorem dX12_cover_45 : decode cX12_cover 45 = .ok (.aload_n 0, 1) := by decide +kernel
theorem dX12_cover_46 : decode cX12_cover 46 = .ok (.invokevirtual 84, 3) := by decide +kernel
theorem dX12_cover_49 : decode cX12_cover 49 = .ok (.ireturn, 1) := by decide +kernel
theorem dX12_cover_50 : decode cX12_cover 50 = .ok (.bipush 47, 2) := by decide +kernel
theorem dX12_cover_52 : decode cX12_cover 52 = .ok (.iconst 3, 1) := by decide +kernel
theorem dX12_cover_53 : decode cX12_cover 53 = .ok (.aload_n 0, 1) := by decide +kernel
theorem dX12_cover_54 : decode cX12_cover 54 = .ok (.getfield 7, 3) := by decide +kernel
theorem dX12_cover_57 : decode cX12_cover 57 = .ok (.iconst 2, 1) := by decide +kernel
theorem dX12_cover_58 : decode cX12_cover 58 = .ok (.iaload, 1) := by decide +kernel
theorem dX12_cover_59 : decode cX12_cover 59 = .ok (.imul, 1) := by decide +kernel
theorem dX12_cover_60 : decode cX12_cover 60 = .ok (.iadd, 1) := by decide +kernel
theorem dX12_cover_61 : decode cX12_cover 61 = .ok (.istore 4, 2) := by decide +kernel
theorem dX12_cover_63 : decode cX12_cover 63 = .ok (.aload_n 0, 1) := by decide +kernel
theorem dX12_cover_64 : decode cX12_cover 64 = .ok (.getfield 7, 3) := by decide +kernel
theorem dX12_cover_67 : decode cX12_cover 67 = .ok (.iload 4, 2) := by decide +kernel
theorem dX12_cover_69 : decode cX12_cover 69 = .ok (.iload_n 1, 1) := by decide +kernel
theorem dX12_cover_70 : decode cX12_cover 70 = .ok (.iastore, 1) := by decide +kernel
theorem dX12_cover_71 : decode cX12_cover 71 = .ok (.aload_n 0, 1) := by decide +kernel
theorem dX12_cover_72 : decode cX12_cover 72 = .ok (.getfield 7, 3) := by decide +kernel
theorem dX12_cover_75 : decode cX12_cover 75 = .ok (.iload 4, 2) := by decide +kernel
theorem dX12_cover_77 : decode cX12_cover 77 = .ok (.iconst 1, 1) := by decide +kernel
theorem dX12_cover_78 : decode cX12_cover 78 = .ok (.iadd, 1) := by decide +kernel
theorem dX12_cover_79 : decode cX12_cover 79 = .ok (.iload_n 2, 1) := by decide +kernel
theorem dX12_cover_80 : decode cX12_cover 80 = .ok (.iastore, 1) := by decide +kernel
theorem dX12_cover_81 : decode cX12_cover 81 = .ok (.aload_n 0, 1) := by decide +kernel
theorem dX12_cover_82 : decode cX12_cover 82 = .ok (.getfield 7, 3) := by decide +kernel
theorem dX12_cover_85 : decode cX12_cover 85 = .ok (.iload 4, 2) := by decide +kernel
theorem dX12_cover_87 : decode cX12_cover 87 = .ok (.iconst 2, 1) := by decide +kernel
theorem dX12_cover_88 : decode cX12_cover 88 = .ok (.iadd, 1) := by decide +kernel
theorem dX12_cover_89 : decode cX12_cover 89 = .ok (.iload_n 3, 1) := by decide +kernel
theorem dX12_cover_90 : decode cX12_cover 90 = .ok (.iastore, 1) := by decide +kernel
theorem dX12_cover_91 : decode cX12_cover 91 = .ok (.aload_n 0, 1) := by decide +kernel
theorem dX12_cover_92 : decode cX12_cover 92 = .ok (.getfield 7, 3) := by decide +kernel
theorem dX12_cover_95 : decode cX12_cover 95 = .ok (.iconst 2, 1) := by decide +kernel
theorem dX12_cover_96 : decode cX12_cover 96 = .ok (.dup2, 1) := by decide +kernel
theorem dX12_cover_97 : decode cX12_cover 97 = .ok (.iaload, 1) := by decide +kernel
theorem dX12_cover_98 : decode cX12_cover 98 = .ok (.iconst 1, 1) := by decide +kernel
theorem dX12_cover_99 : decode cX12_cover 99 = .ok (.iadd, 1) := by decide +kernel
theorem dX12_cover_100 : decode cX12_cover 100 = .ok (.iastore, 1) := by decide +kernel
theorem dX12_cover_101 : decode cX12_cover 101 = .ok (.aload_n 0, 1) := by decide +kernel
theorem dX12_cover_102 : decode cX12_cover 102 = .ok (.getfield 7, 3) := by decide +kernel
theorem dX12_cover_105 : decode cX12_cover 105 = .ok (.iconst 2, 1) := by decide +kernel
theorem dX12_cover_106 : decode cX12_cover 106 = .ok (.iaload, 1) := by decide +kernel
theorem dX12_cover_107 : decode cX12_cover 107 = .ok (.ireturn, 1) := by decide +kernel
theorem dX12_note_0 : decode cX12_note 0 = .ok (.aload_n 0, 1) := by decide +kernel
theorem dX12_note_1 : decode cX12_note 1 = .ok (.iload_n 1, 1) := by decide +kernel
theorem dX12_note_2 : decode cX12_note 2 = .ok (.invokevirtual 117, 3) := by decide +kernel
theorem dX12_note_5 : decode cX12_note 5 = .ok (.ifCond .eq 27, 3) := by decide +kernel
theorem dX12_note_8 : decode cX12_note 8 = .ok (.iload_n 2, 1) := by decide +kernel
theorem dX12_note_9 : decode cX12_note 9 = .ok (.i2l, 1) := by decide +kernel
theorem dX12_note_10 : decode cX12_note 10 = .ok (.lconst 0, 1) := by decide +kernel
theorem dX12_note_11 : decode cX12_note 11 = .ok (.ldc2_w 72, 3) := by decide +kernel
theorem dX12_note_14 : decode cX12_note 14 = .ok (.invokestatic 65, 3) := by decide +kernel
theorem dX12_note_17 : decode cX12_note 17 = .ok (.ifCond .eq 15, 3) := by decide +kernel
theorem dX12_note_20 : decode cX12_note 20 = .ok (.iload_n 3, 1) := by decide +kernel
theorem dX12_note_21 : decode cX12_note 21 = .ok (.i2l, 1) := by decide +kernel
theorem dX12_note_22 : decode cX12_note 22 = .ok (.lconst 0, 1) := by decide +kernel
theorem dX12_note_23 : decode cX12_note 23 = .ok (.ldc2_w 175, 3) := by decide +kernel
theorem dX12_note_26 : decode cX12_note 26 = .ok (.invokestatic 65, 3) := by decide +kernel
theorem dX12_note_29 : decode cX12_note 29 = .ok (.ifCond .ne 10, 3) := by decide +kernel
theorem dX12_note_32 : decode cX12_note 32 = .ok (.aload_n 0, 1) := by decide +kernel
theorem dX12_note_33 : decode cX12_note 33 = .ok (.bipush (-2), 2) := by decide +kernel
theorem dX12_note_35 : decode cX12_note 35 = .ok (.invokevirtual 80, 3) := by decide +kernel
theorem dX12_note_38 : decode cX12_note 38 = .ok (.ireturn, 1) := by decide +kernel
theorem dX12_note_39 : decode cX12_note 39 = .ok (.aload_n 0, 1) := by decide +kernel
theorem dX12_note_40 : decode cX12_note 40 = .ok (.getfield 7, 3) := by decide +kernel
theorem dX12_note_43 : decode cX12_note 43 = .ok (.iconst 3, 1) := by decide +kernel
theorem dX12_note_44 : decode cX12_note 44 = .ok (.iaload, 1) := by decide +kernel
theorem dX12_note_45 : decode cX12_note 45 = .ok (.bipush 6, 2) := by decide +kernel
theorem dX12_note_47 : decode cX12_note 47 = .ok (.if_icmp .ne 8, 3) := by decide +kernel
theorem dX12_note_50 : decode cX12_note 50 = .ok (.aload_n 0, 1) := by decide +kernel
theorem dX12_note_51 : decode cX12_note 51 = .ok (.invokevirtual 84, 3) := by decide +kernel
theorem dX12_note_54 : decode cX12_note 54 = .ok (.ireturn, 1) := by decide +kernel
theorem dX12_note_55 : decode cX12_note 55 = .ok (.bipush 65, 2) := by decide +kernel
theorem dX12_note_57 : decode cX12_note 57 = .ok (.iconst 3, 1) := by decide +kernel
theorem dX12_note_58 : decode cX12_note 58 = .ok (.aload_n 0, 1) := by decide +kernel
theorem dX12_note_59 : decode cX12_note 59 = .ok (.getfield 7, 3) := by decide +kernel
theorem dX12_note_62 : decode cX12_note 62 = .ok (.iconst 3, 1) := by decide +kernel
theorem dX12_note_63 : decode cX12_note 63 = .ok (.iaload, 1) := by decide +kernel
theorem dX12_note_64 : decode cX12_note 64 = .ok (.imul, 1) := by decide +kernel
theorem dX12_note_65 : decode cX12_note 65 = .ok (.iadd, 1) := by decide +kernel
theorem dX12_note_66 : decode cX12_note 66 = .ok (.istore 4, 2) := by decide +kernel
theorem dX12_note_68 : decode cX12_note 68 = .ok (.aload_n 0, 1) := by decide +kernel
theorem dX12_note_69 : decode cX12_note 69 = .ok (.getfield 7, 3) := by decide +kernel
theorem dX12_note_72 : decode cX12_note 72 = .ok (.iload 4, 2) := by decide +kernel
theorem dX12_note_74 : decode cX12_note 74 = .ok (.iload_n 1, 1) := by decide +kernel
theorem dX12_note_75 : decode cX12_note 75 = .ok (.iastore, 1) := by decide +kernel
theorem dX12_note_76 : decode cX12_note 76 = .ok (.aload_n 0, 1) := by decide +kernel
theorem dX12_note_77 : decode cX12_note 77 = .ok (.getfield 7, 3) := by decide +kernel
theorem dX12_note_80 : decode cX12_note 80 = .ok (.iload 4, 2) := by decide +kernel
theorem dX12_note_82 : decode cX12_note 82 = .ok (.iconst 1, 1) := by decide +kernel
theorem dX12_note_83 : decode cX12_note 83 = .ok (.iadd, 1) := by decide +kernel
theorem dX12_note_84 : decode cX12_note 84 = .ok (.iload_n 2, 1) := by decide +kernel
theorem dX12_note_85 : decode cX12_note 85 = .ok (.iastore, 1) := by decide +kernel
theorem dX12_note_86 : decode cX12_note 86 = .ok (.aload_n 0, 1) := by decide +kernel
theorem dX12_note_87 : decode cX12_note 87 = .ok (.getfield 7, 3) := by decide +kernel
theorem dX12_note_90 : decode cX12_note 90 = .ok (.iload 4, 2) := by decide +kernel
theorem dX12_note_92 : decode cX12_note 92 = .ok (.iconst 2, 1) := by decide +kernel
theorem dX12_note_93 : decode cX12_note 93 = .ok (.iadd, 1) := by decide +kernel
theorem dX12_note_94 : decode cX12_note 94 = .ok (.iload_n 3, 1) := by decide +kernel
theorem dX12_note_95 : decode cX12_note 95 = .ok (.iastore, 1) := by decide +kernel
theorem dX12_note_96 : decode cX12_note 96 = .ok (.aload_n 0, 1) := by decide +kernel
theorem dX12_note_97 : decode cX12_note 97 = .ok (.getfield 7, 3) := by decide +kernel
theorem dX12_note_100 : decode cX12_note 100 = .ok (.iconst 3, 1) := by decide +kernel
theorem dX12_note_101 : decode cX12_note 101 = .ok (.dup2, 1) := by decide +kernel
theorem dX12_note_102 : decode cX12_note 102 = .ok (.iaload, 1) := by decide +kernel
theorem dX12_note_103 : decode cX12_note 103 = .ok (.iconst 1, 1) := by decide +kernel
theorem dX12_note_104 : decode cX12_note 104 = .ok (.iadd, 1) := by decide +kernel
theorem dX12_note_105 : decode cX12_note 105 = .ok (.iastore, 1) := by decide +kernel
theorem dX12_note_106 : decode cX12_note 106 = .ok (.aload_n 0, 1) := by decide +kernel
theorem dX12_note_107 : decode cX12_note 107 = .ok (.getfield 7, 3) := by decide +kernel
theorem dX12_note_110 : decode cX12_note 110 = .ok (.iconst 3, 1) := by decide +kernel
theorem dX12_note_111 : decode cX12_note 111 = .ok (.iaload, 1) := by decide +kernel
theorem dX12_note_112 : decode cX12_note 112 = .ok (.ireturn, 1) := by decide +kernel
theorem dX12_forget_0 : decode cX12_forget 0 = .ok (.iload_n 1, 1) := by decide +kernel
theorem dX12_forget_1 : decode cX12_forget 1 = .ok (.i2l, 1) := by decide +kernel
theorem dX12_forget_2 : decode cX12_forget 2 = .ok (.lconst 0, 1) := by decide +kernel
theorem dX12_forget_3 : decode cX12_forget 3 = .ok (.lconst 1, 1) := by decide +kernel
theorem dX12_forget_4 : decode cX12_forget 4 = .ok (.invokestatic 65, 3) := by decide +kernel
theorem dX12_forget_7 : decode cX12_forget 7 = .ok (.ifCond .ne 10, 3) := by decide +kernel
theorem dX12_forget_10 : decode cX12_forget 10 = .ok (.aload_n 0, 1) := by decide +kernel
theorem dX12_forget_11 : decode cX12_forget 11 = .ok (.bipush (-2), 2) := by decide +kernel
theorem dX12_forget_13 : decode cX12_forget 13 = .ok (.invokevirtual 80, 3) := by decide +kernel
theorem dX12_forget_16 : decode cX12_forget 16 = .ok (.ireturn, 1) := by decide +kernel
theorem dX12_forget_17 : decode cX12_forget 17 = .ok (.aload_n 0, 1) := by decide +kernel
theorem dX12_forget_18 : decode cX12_forget 18 = .ok (.getfield 7, 3) := by decide +kernel
theorem dX12_forget_21 : decode cX12_forget 21 = .ok (.iconst 2, 1) := by decide +kernel
theorem dX12_forget_22 : decode cX12_forget 22 = .ok (.iload_n 1, 1) := by decide +kernel
theorem dX12_forget_23 : decode cX12_forget 23 = .ok (.iadd, 1) := by decide +kernel
theorem dX12_forget_24 : decode cX12_forget 24 = .ok (.iaload, 1) := by decide +kernel
theorem dX12_forget_25 : decode cX12_forget 25 = .ok (.istore_n 2, 1) := by decide +kernel
theorem dX12_forget_26 : decode cX12_forget 26 = .ok (.aload_n 0, 1) := by decide +kernel
theorem dX12_forget_27 : decode cX12_forget 27 = .ok (.getfield 7, 3) := by decide +kernel
theorem dX12_forget_30 : decode cX12_forget 30 = .ok (.iconst 2, 1) := by decide +kernel
theorem dX12_forget_31 : decode cX12_forget 31 = .ok (.iload_n 1, 1) := by decide +kernel
theorem dX12_forget_32 : decode cX12_forget 32 = .ok (.iadd, 1) := by decide +kernel
theorem dX12_forget_33 : decode cX12_forget 33 = .ok (.iconst 0, 1) := by decide +kernel
theorem dX12_forget_34 : decode cX12_forget 34 = .ok (.iastore, 1) := by decide +kernel
theorem dX12_forget_35 : decode cX12_forget 35 = .ok (.iload_n 2, 1) := by decide +kernel
theorem dX12_forget_36 : decode cX12_forget 36 = .ok (.ireturn, 1) := by decide +kernel
theorem dX12_isCoverOf_0 : decode cX12_isCoverOf 0 = .ok (.aload_n 0, 1) := by decide +kernel
theorem dX12_isCoverOf_1 : decode cX12_isCoverOf 1 = .ok (.getfield 7, 3) := by decide +kernel
theorem dX12_isCoverOf_4 : decode cX12_isCoverOf 4 = .ok (.bipush 47, 2) := by decide +kernel
theorem dX12_isCoverOf_6 : decode cX12_isCoverOf 6 = .ok (.iconst 3, 1) := by decide +kernel
theorem dX12_isCoverOf_7 : decode cX12_isCoverOf 7 = .ok (.iload_n 1, 1) := by decide +kernel
theorem dX12_isCoverOf_8 : decode cX12_isCoverOf 8 = .ok (.imul, 1) := by decide +kernel
theorem dX12_isCoverOf_9 : decode cX12_isCoverOf 9 = .ok (.iadd, 1) := by decide +kernel
theorem dX12_isCoverOf_10 : decode cX12_isCoverOf 10 = .ok (.iaload, 1) := by decide +kernel
theorem dX12_isCoverOf_11 : decode cX12_isCoverOf 11 = .ok (.iload_n 2, 1) := by decide +kernel
theorem dX12_isCoverOf_12 : decode cX12_isCoverOf 12 = .ok (.if_icmp .ne 24, 3) := by decide +kernel
theorem dX12_isCoverOf_15 : decode cX12_isCoverOf 15 = .ok (.aload_n 0, 1) := by decide +kernel
theorem dX12_isCoverOf_16 : decode cX12_isCoverOf 16 = .ok (.getfield 7, 3) := by decide +kernel
theorem dX12_isCoverOf_19 : decode cX12_isCoverOf 19 = .ok (.bipush 47, 2) := by decide +kernel
theorem dX12_isCoverOf_21 : decode cX12_isCoverOf 21 = .ok (.iconst 3, 1) := by decide +kernel
theorem dX12_isCoverOf_22 : decode cX12_isCoverOf 22 = .ok (.iload_n 1, 1) := by decide +kernel
theorem dX12_isCoverOf_23 : decode cX12_isCoverOf 23 = .ok (.imul, 1) := by decide +kernel
theorem dX12_isCoverOf_24 : decode cX12_isCoverOf 24 = .ok (.iadd, 1) := by decide +kernel
theorem dX12_isCoverOf_25 : decode cX12_isCoverOf 25 = .ok (.iconst 1, 1) := by decide +kernel
theorem dX12_isCoverOf_26 : decode cX12_isCoverOf 26 = .ok (.iadd, 1) := by decide +kernel
theorem dX12_isCoverOf_27 : decode cX12_isCoverOf 27 = .ok (.iaload, 1) := by decide +kernel
theorem dX12_isCoverOf_28 : decode cX12_isCoverOf 28 = .ok (.iload_n 3, 1) := by decide +kernel
theorem dX12_isCoverOf_29 : decode cX12_isCoverOf 29 = .ok (.if_icmp .ne 7, 3) := by decide +kernel
theorem dX12_isCoverOf_32 : decode cX12_isCoverOf 32 = .ok (.iconst 1, 1) := by decide +kernel
theorem dX12_isCoverOf_33 : decode cX12_isCoverOf 33 = .ok (.goto 4, 3) := by decide +kernel
theorem dX12_isCoverOf_36 : decode cX12_isCoverOf 36 = .ok (.iconst 0, 1) := by decide +kernel
theorem dX12_isCoverOf_37 : decode cX12_isCoverOf 37 = .ok (.ireturn, 1) := by decide +kernel
