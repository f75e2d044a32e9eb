theorem dX0_init_0 : decode cX0_init 0 = .ok (.aload_n 0, 1) := by decide +kernel
theorem dX0_init_1 : decode cX0_init 1 = .ok (.invokespecial 1, 3) := by decide +kernel
theorem dX0_init_4 : decode cX0_init 4 = .ok (.return_, 1) := by decide +kernel
theorem dX0_signs_0 : decode cX0_signs 0 = .ok (.iload_n 1, 1) := by decide +kernel
theorem dX0_signs_1 : decode cX0_signs 1 = .ok (.bipush 7, 2) := by decide +kernel
theorem dX0_signs_3 : decode cX0_signs 3 = .ok (.if_icmp .lt 7, 3) := by decide +kernel
theorem dX0_signs_6 : decode cX0_signs 6 = .ok (.iconst 0, 1) := by decide +kernel
theorem dX0_signs_7 : decode cX0_signs 7 = .ok (.goto 8, 3) := by decide +kernel
theorem dX0_signs_10 : decode cX0_signs 10 = .ok (.aload_n 0, 1) := by decide +kernel
theorem dX0_signs_11 : decode cX0_signs 11 = .ok (.iload_n 1, 1) := by decide +kernel
theorem dX0_signs_12 : decode cX0_signs 12 = .ok (.invokespecial 7, 3) := by decide +kernel
theorem dX0_signs_15 : decode cX0_signs 15 = .ok (.ireturn, 1) := by decide +kernel
theorem dX0_reach_0 : decode cX0_reach 0 = .ok (.iconst 0, 1) := by decide +kernel
theorem dX0_reach_1 : decode cX0_reach 1 = .ok (.ireturn, 1) := by decide +kernel
theorem dX1_init_0 : decode cX1_init 0 = .ok (.aload_n 0, 1) := by decide +kernel
theorem dX1_init_1 : decode cX1_init 1 = .ok (.invokespecial 3, 3) := by decide +kernel
theorem dX1_init_4 : decode cX1_init 4 = .ok (.aload_n 0, 1) := by decide +kernel
theorem dX1_init_5 : decode cX1_init 5 = .ok (.iconst 5, 1) := by decide +kernel
theorem dX1_init_6 : decode cX1_init 6 = .ok (.newarray .int, 2) := by decide +kernel
theorem dX1_init_8 : decode cX1_init 8 = .ok (.putfield 9, 3) := by decide +kernel
theorem dX1_init_11 : decode cX1_init 11 = .ok (.aload_n 0, 1) := by decide +kernel
theorem dX1_init_12 : decode cX1_init 12 = .ok (.iconst 5, 1) := by decide +kernel
theorem dX1_init_13 : decode cX1_init 13 = .ok (.newarray .int, 2) := by decide +kernel
theorem dX1_init_15 : decode cX1_init 15 = .ok (.putfield 15, 3) := by decide +kernel
theorem dX1_init_18 : decode cX1_init 18 = .ok (.aload_n 0, 1) := by decide +kernel
theorem dX1_init_19 : decode cX1_init 19 = .ok (.iconst 5, 1) := by decide +kernel
theorem dX1_init_20 : decode cX1_init 20 = .ok (.newarray .int, 2) := by decide +kernel
theorem dX1_init_22 : decode cX1_init 22 = .ok (.putfield 18, 3) := by decide +kernel
theorem dX1_init_25 : decode cX1_init 25 = .ok (.aload_n 0, 1) := by decide +kernel
theorem dX1_init_26 : decode cX1_init 26 = .ok (.bipush 6, 2) := by decide +kernel
theorem dX1_init_28 : decode cX1_init 28 = .ok (.newarray .int, 2) := by decide +kernel
theorem dX1_init_30 : decode cX1_init 30 = .ok (.putfield 21, 3) := by decide +kernel
theorem dX1_init_33 : decode cX1_init 33 = .ok (.aload_n 0, 1) := by decide +kernel
theorem dX1_init_34 : decode cX1_init 34 = .ok (.bipush 6, 2) := by decide +kernel
theorem dX1_init_36 : decode cX1_init 36 = .ok (.newarray .int, 2) := by decide +kernel
theorem dX1_init_38 : decode cX1_init 38 = .ok (.putfield 24, 3) := by decide +kernel
theorem dX1_init_41 : decode cX1_init 41 = .ok (.aload_n 0, 1) := by decide +kernel
theorem dX1_init_42 : decode cX1_init 42 = .ok (.bipush 6, 2) := by decide +kernel
theorem dX1_init_44 : decode cX1_init 44 = .ok (.newarray .int, 2) := by decide +kernel
theorem dX1_init_46 : decode cX1_init 46 = .ok (.putfield 27, 3) := by decide +kernel
theorem dX1_init_49 : decode cX1_init 49 = .ok (.aload_n 0, 1) := by decide +kernel
theorem dX1_init_50 : decode cX1_init 50 = .ok (.bipush 6, 2) := by decide +kernel
theorem dX1_init_52 : decode cX1_init 52 = .ok (.newarray .int, 2) := by decide +kernel
theorem dX1_init_54 : decode cX1_init 54 = .ok (.putfield 30, 3) := by decide +kernel
theorem dX1_init_57 : decode cX1_init 57 = .ok (.aload_n 0, 1) := by decide +kernel
theorem dX1_init_58 : decode cX1_init 58 = .ok (.new 33, 3) := by decide +kernel
theorem dX1_init_61 : decode cX1_init 61 = .ok (.dup, 1) := by decide +kernel
theorem dX1_init_62 : decode cX1_init 62 = .ok (.invokespecial 35, 3) := by decide +kernel
theorem dX1_init_65 : decode cX1_init 65 = .ok (.putfield 36, 3) := by decide +kernel
theorem dX1_init_68 : decode cX1_init 68 = .ok (.aload_n 0, 1) := by decide +kernel
theorem dX1_init_69 : decode cX1_init 69 = .ok (.new 33, 3) := by decide +kernel
theorem dX1_init_72 : decode cX1_init 72 = .ok (.dup, 1) := by decide +kernel
theorem dX1_init_73 : decode cX1_init 73 = .ok (.invokespecial 35, 3) := by decide +kernel
theorem dX1_init_76 : decode cX1_init 76 = .ok (.putfield 40, 3) := by decide +kernel
theorem dX1_init_79 : decode cX1_init 79 = .ok (.aload_n 0, 1) := by decide +kernel
theorem dX1_init_80 : decode cX1_init 80 = .ok (.new 43, 3) := by decide +kernel
theorem dX1_init_83 : decode cX1_init 83 = .ok (.dup, 1) := by decide +kernel
theorem dX1_init_84 : decode cX1_init 84 = .ok (.invokespecial 45, 3) := by decide +kernel
theorem dX1_init_87 : decode cX1_init 87 = .ok (.putfield 46, 3) := by decide +kernel
theorem dX1_init_90 : decode cX1_init 90 = .ok (.aload_n 0, 1) := by decide +kernel
theorem dX1_init_91 : decode cX1_init 91 = .ok (.aload_n 1, 1) := by decide +kernel
theorem dX1_init_92 : decode cX1_init 92 = .ok (.putfield 50, 3) := by decide +kernel
theorem dX1_init_95 : decode cX1_init 95 = .ok (.return_, 1) := by decide +kernel
theorem dX1_makeEmpty_0 : decode cX1_makeEmpty 0 = .ok (.aload_n 0, 1) := by decide +kernel
theorem dX1_makeEmpty_1 : decode cX1_makeEmpty 1 = .ok (.iconst 0, 1) := by decide +kernel
theorem dX1_makeEmpty_2 : decode cX1_makeEmpty 2 = .ok (.putfield 54, 3) := by decide +kernel
theorem dX1_makeEmpty_5 : decode cX1_makeEmpty 5 = .ok (.aload_n 0, 1) := by decide +kernel
theorem dX1_makeEmpty_6 : decode cX1_makeEmpty 6 = .ok (.iconst 0, 1) := by decide +kernel
theorem dX1_makeEmpty_7 : decode cX1_makeEmpty 7 = .ok (.putfield 58, 3) := by decide +kernel
theorem dX1_makeEmpty_10 : decode cX1_makeEmpty 10 = .ok (.aload_n 0, 1) := by decide +kernel
theorem dX1_makeEmpty_11 : decode cX1_makeEmpty 11 = .ok (.iconst 0, 1) := by decide +kernel
theorem dX1_makeEmpty_12 : decode cX1_makeEmpty 12 = .ok (.putfield 61, 3) := by decide +kernel
theorem dX1_makeEmpty_15 : decode cX1_makeEmpty 15 = .ok (.aload_n 0, 1) := by decide +kernel
theorem dX1_makeEmpty_16 : decode cX1_makeEmpty 16 = .ok (.iconst 0, 1) := by decide +kernel
theorem dX1_makeEmpty_17 : decode cX1_makeEmpty 17 = .ok (.putfield 64, 3) := by decide +kernel
theorem dX1_makeEmpty_20 : decode cX1_makeEmpty 20 = .ok (.aload_n 0, 1) := by decide +kernel
theorem dX1_makeEmpty_21 : decode cX1_makeEmpty 21 = .ok (.iconst 0, 1) := by decide +kernel
theorem dX1_makeEmpty_22 : decode cX1_makeEmpty 22 = .ok (.putfield 67, 3) := by decide +kernel
theorem dX1_makeEmpty_25 : decode cX1_makeEmpty 25 = .ok (.aload_n 0, 1) := by decide +kernel
theorem dX1_makeEmpty_26 : decode cX1_makeEmpty 26 = .ok (.getfield 36, 3) := by decide +kernel
theorem dX1_makeEmpty_29 : decode cX1_makeEmpty 29 = .ok (.iconst 0, 1) := by decide +kernel
theorem dX1_makeEmpty_30 : decode cX1_makeEmpty 30 = .ok (.putfield 70, 3) := by decide +kernel
theorem dX1_makeEmpty_33 : decode cX1_makeEmpty 33 = .ok (.aload_n 0, 1) := by decide +kernel
theorem dX1_makeEmpty_34 : decode cX1_makeEmpty 34 = .ok (.getfield 40, 3) := by decide +kernel
theorem dX1_makeEmpty_37 : decode cX1_makeEmpty 37 = .ok (.iconst 0, 1) := by decide +kernel
theorem dX1_makeEmpty_38 : decode cX1_makeEmpty 38 = .ok (.putfield 70, 3) := by decide +kernel
theorem dX1_makeEmpty_41 : decode cX1_makeEmpty 41 = .ok (.aload_n 0, 1) := by decide +kernel
theorem dX1_makeEmpty_42 : decode cX1_makeEmpty 42 = .ok (.getfield 46, 3) := by decide +kernel
theorem dX1_makeEmpty_45 : decode cX1_makeEmpty 45 = .ok (.invokevirtual 73, 3) := by decide +kernel
theorem dX1_makeEmpty_48 : decode cX1_makeEmpty 48 = .ok (.return_, 1) := by decide +kernel
theorem dX1_takeOver_0 : decode cX1_takeOver 0 = .ok (.aload_n 0, 1) := by decide +kernel
theorem dX1_takeOver_1 : decode cX1_takeOver 1 = .ok (.aload_n 1, 1) := by decide +kernel
theorem dX1_takeOver_2 : decode cX1_takeOver 2 = .ok (.getfield 54, 3) := by decide +kernel
theorem dX1_takeOver_5 : decode cX1_takeOver 5 = .ok (.putfield 54, 3) := by decide +kernel
theorem dX1_takeOver_8 : decode cX1_takeOver 8 = .ok (.aload_n 1, 1) := by decide +kernel
theorem dX1_takeOver_9 : decode cX1_takeOver 9 = .ok (.getfield 9, 3) := by decide +kernel
theorem dX1_takeOver_12 : decode cX1_takeOver 12 = .ok (.iconst 0, 1) := by decide +kernel
theorem dX1_takeOver_13 : decode cX1_takeOver 13 = .ok (.aload_n 0, 1) := by decide +kernel
theorem dX1_takeOver_14 : decode cX1_takeOver 14 = .ok (.getfield 9, 3) := by decide +kernel
theorem dX1_takeOver_17 : decode cX1_takeOver 17 = .ok (.iconst 0, 1) := by decide +kernel
theorem dX1_takeOver_18 : decode cX1_takeOver 18 = .ok (.iconst 5, 1) := by decide +kernel
theorem dX1_takeOver_19 : decode cX1_takeOver 19 = .ok (.invokestatic 76, 3) := by decide +kernel
theorem dX1_takeOver_22 : decode cX1_takeOver 22 = .ok (.aload_n 1, 1) := by decide +kernel
theorem dX1_takeOver_23 : decode cX1_takeOver 23 = .ok (.getfield 15, 3) := by decide +kernel
theorem dX1_takeOver_26 : decode cX1_takeOver 26 = .ok (.iconst 0, 1) := by decide +kernel
theorem dX1_takeOver_27 : decode cX1_takeOver 27 = .ok (.aload_n 0, 1) := by decide +kernel
theorem dX1_takeOver_28 : decode cX1_takeOver 28 = .ok (.getfield 15, 3) := by decide +kernel
theorem dX1_takeOver_31 : decode cX1_takeOver 31 = .ok (.iconst 0, 1) := by decide +kernel
theorem dX1_takeOver_32 : decode cX1_takeOver 32 = .ok (.iconst 5, 1) := by decide +kernel
theorem dX1_takeOver_33 : decode cX1_takeOver 33 = .ok (.invokestatic 76, 3) := by decide +kernel
theorem dX1_takeOver_36 : decode cX1_takeOver 36 = .ok (.aload_n 1, 1) := by decide +kernel
theorem dX1_takeOver_37 : decode cX1_takeOver 37 = .ok (.getfield 18, 3) := by decide +kernel
theorem dX1_takeOver_40 : decode cX1_takeOver 40 = .ok (.iconst 0, 1) := by decide +kernel
theorem dX1_takeOver_41 : decode cX1_takeOver 41 = .ok (.aload_n 0, 1) := by decide +kernel
theorem dX1_takeOver_42 : decode cX1_takeOver 42 = .ok (.getfield 18, 3) := by decide +kernel
theorem dX1_takeOver_45 : decode cX1_takeOver 45 = .ok (.iconst 0, 1) := by decide +kernel
theorem dX1_takeOver_46 : decode cX1_takeOver 46 = .ok (.iconst 5, 1) := by decide +kernel
theorem dX1_takeOver_47 : decode cX1_takeOver 47 = .ok (.invokestatic 76, 3) := by decide +kernel
theorem dX1_takeOver_50 : decode cX1_takeOver 50 = .ok (.aload_n 0, 1) := by decide +kernel
theorem dX1_takeOver_51 : decode cX1_takeOver 51 = .ok (.aload_n 1, 1) := by decide +kernel
theorem dX1_takeOver_52 : decode cX1_takeOver 52 = .ok (.getfield 58, 3) := by decide +kernel
theorem dX1_takeOver_55 : decode cX1_takeOver 55 = .ok (.putfield 58, 3) := by decide +kernel
theorem dX1_takeOver_58 : decode cX1_takeOver 58 = .ok (.aload_n 1, 1) := by decide +kernel
theorem dX1_takeOver_59 : decode cX1_takeOver 59 = .ok (.getfield 21, 3) := by decide +kernel
theorem dX1_takeOver_62 : decode cX1_takeOver 62 = .ok (.iconst 0, 1) := by decide +kernel
theorem dX1_takeOver_63 : decode cX1_takeOver 63 = .ok (.aload_n 0, 1) := by decide +kernel
theorem dX1_takeOver_64 : decode cX1_takeOver 64 = .ok (.getfield 21, 3) := by decide +kernel
theorem dX1_takeOver_67 : decode cX1_takeOver 67 = .ok (.iconst 0, 1) := by decide +kernel
theorem dX1_takeOver_68 : decode cX1_takeOver 68 = .ok (.bipush 6, 2) := by decide +kernel
theorem dX1_takeOver_70 : decode cX1_takeOver 70 = .ok (.invokestatic 76, 3) := by decide +kernel
theorem dX1_takeOver_73 : decode cX1_takeOver 73 = .ok (.aload_n 1, 1) := by decide +kernel
theorem dX1_takeOver_74 : decode cX1_takeOver 74 = .ok (.getfield 24, 3) := by decide +kernel
theorem dX1_takeOver_77 : decode cX1_takeOver 77 = .ok (.iconst 0, 1) := by decide +kernel
theorem dX1_takeOver_78 : decode cX1_takeOver 78 = .ok (.aload_n 0, 1) := by decide +kernel
theorem dX1_takeOver_79 : decode cX1_takeOver 79 = .ok (.getfield 24, 3) := by decide +kernel
theorem dX1_takeOver_82 : decode cX1_takeOver 82 = .ok (.iconst 0, 1) := by decide +kernel
theorem dX1_takeOver_83 : decode cX1_takeOver 83 = .ok (.bipush 6, 2) := by decide +kernel
theorem dX1_takeOver_85 : decode cX1_takeOver 85 = .ok (.invokestatic 76, 3) := by decide +kernel
theorem dX1_takeOver_88 : decode cX1_takeOver 88 = .ok (.aload_n 1, 1) := by decide +kernel
theorem dX1_takeOver_89 : decode cX1_takeOver 89 = .ok (.getfield 27, 3) := by decide +kernel
theorem dX1_takeOver_92 : decode cX1_takeOver 92 = .ok (.iconst 0, 1) := by decide +kernel
theorem dX1_takeOver_93 : decode cX1_takeOver 93 = .ok (.aload_n 0, 1) := by decide +kernel
theorem dX1_takeOver_94 : decode cX1_takeOver 94 = .ok (.getfield 27, 3) := by decide +kernel
theorem dX1_takeOver_97 : decode cX1_takeOver 97 = .ok (.iconst 0, 1) := by decide +kernel
theorem dX1_takeOver_98 : decode cX1_takeOver 98 = .ok (.bipush 6, 2) := by decide +kernel
theorem dX1_takeOver_100 : decode cX1_takeOver 100 = .ok (.invokestatic 76, 3) := by decide +kernel
theorem dX1_takeOver_103 : decode cX1_takeOver 103 = .ok (.aload_n 1, 1) := by decide +kernel
theorem dX1_takeOver_104 : decode cX1_takeOver 104 = .ok (.getfield 30, 3) := by decide +kernel
theorem dX1_takeOver_107 : decode cX1_takeOver 107 = .ok (.iconst 0, 1) := by decide +kernel
theorem dX1_takeOver_108 : decode cX1_takeOver 108 = .ok (.aload_n 0, 1) := by decide +kernel
theorem dX1_takeOver_109 : decode cX1_takeOver 109 = .ok (.getfield 30, 3) := by decide +kernel
theorem dX1_takeOver_112 : decode cX1_takeOver 112 = .ok (.iconst 0, 1) := by decide +kernel
theorem dX1_takeOver_113 : decode cX1_takeOver 113 = .ok (.bipush 6, 2) := by decide +kernel
theorem dX1_takeOver_115 : decode cX1_takeOver 115 = .ok (.invokestatic 76, 3) := by decide +kernel
theorem dX1_takeOver_118 : decode cX1_takeOver 118 = .ok (.aload_n 0, 1) := by decide +kernel
theorem dX1_takeOver_119 : decode cX1_takeOver 119 = .ok (.aload_n 1, 1) := by decide +kernel
theorem dX1_takeOver_120 : decode cX1_takeOver 120 = .ok (.getfield 61, 3) := by decide +kernel
theorem dX1_takeOver_123 : decode cX1_takeOver 123 = .ok (.putfield 61, 3) := by decide +kernel
theorem dX1_takeOver_126 : decode cX1_takeOver 126 = .ok (.aload_n 0, 1) := by decide +kernel
theorem dX1_takeOver_127 : decode cX1_takeOver 127 = .ok (.aload_n 1, 1) := by decide +kernel
theorem dX1_takeOver_128 : decode cX1_takeOver 128 = .ok (.getfield 64, 3) := by decide +kernel
theorem dX1_takeOver_131 : decode cX1_takeOver 131 = .ok (.putfield 64, 3) := by decide +kernel
theorem dX1_takeOver_134 : decode cX1_takeOver 134 = .ok (.aload_n 0, 1) := by decide +kernel
theorem dX1_takeOver_135 : decode cX1_takeOver 135 = .ok (.aload_n 1, 1) := by decide +kernel
theorem dX1_takeOver_136 : decode cX1_takeOver 136 = .ok (.getfield 67, 3) := by decide +kernel
theorem dX1_takeOver_139 : decode cX1_takeOver 139 = .ok (.putfield 67, 3) := by decide +kernel
theorem dX1_takeOver_142 : decode cX1_takeOver 142 = .ok (.aload_n 0, 1) := by decide +kernel
theorem dX1_takeOver_143 : decode cX1_takeOver 143 = .ok (.getfield 36, 3) := by decide +kernel
theorem dX1_takeOver_146 : decode cX1_takeOver 146 = .ok (.aload_n 1, 1) := by decide +kernel
theorem dX1_takeOver_147 : decode cX1_takeOver 147 = .ok (.getfield 36, 3) := by decide +kernel
theorem dX1_takeOver_150 : decode cX1_takeOver 150 = .ok (.invokevirtual 82, 3) := by decide +kernel
theorem dX1_takeOver_153 : decode cX1_takeOver 153 = .ok (.aload_n 0, 1) := by decide +kernel
theorem dX1_takeOver_154 : decode cX1_takeOver 154 = .ok (.getfield 40, 3) := by decide +kernel
theorem dX1_takeOver_157 : decode cX1_takeOver 157 = .ok (.aload_n 1, 1) := by decide +kernel
theorem dX1_takeOver_158 : decode cX1_takeOver 158 = .ok (.getfield 40, 3) := by decide +kernel
theorem dX1_takeOver_161 : decode cX1_takeOver 161 = .ok (.invokevirtual 82, 3) := by decide +kernel
theorem dX1_takeOver_164 : decode cX1_takeOver 164 = .ok (.aload_n 0, 1) := by decide +kernel
theorem dX1_takeOver_165 : decode cX1_takeOver 165 = .ok (.getfield 46, 3) := by decide +kernel
theorem dX1_takeOver_168 : decode cX1_takeOver 168 = .ok (.aload_n 1, 1) := by decide +kernel
theorem dX1_takeOver_169 : decode cX1_takeOver 169 = .ok (.getfield 46, 3) := by decide +kernel
theorem dX1_takeOver_172 : decode cX1_takeOver 172 = .ok (.invokevirtual 86, 3) := by decide +kernel
theorem dX1_takeOver_175 : decode cX1_takeOver 175 = .ok (.return_, 1) := by decide +kernel
theorem dX1_addMember_0 : decode cX1_addMember 0 = .ok (.aload_n 0, 1) := by decide +kernel
theorem dX1_addMember_1 : decode cX1_addMember 1 = .ok (.getfield 9, 3) := by decide +kernel
theorem dX1_addMember_4 : decode cX1_addMember 4 = .ok (.aload_n 0, 1) := by decide +kernel
theorem dX1_addMember_5 : decode cX1_addMember 5 = .ok (.getfield 54, 3) := by decide +kernel
theorem dX1_addMember_8 : decode cX1_addMember 8 = .ok (.iload_n 1, 1) := by decide +kernel
theorem dX1_addMember_9 : decode cX1_addMember 9 = .ok (.iastore, 1) := by decide +kernel
theorem dX1_addMember_10 : decode cX1_addMember 10 = .ok (.aload_n 0, 1) := by decide +kernel
theorem dX1_addMember_11 : decode cX1_addMember 11 = .ok (.getfield 15, 3) := by decide +kernel
theorem dX1_addMember_14 : decode cX1_addMember 14 = .ok (.aload_n 0, 1) := by decide +kernel
theorem dX1_addMember_15 : decode cX1_addMember 15 = .ok (.getfield 54, 3) := by decide +kernel
theorem dX1_addMember_18 : decode cX1_addMember 18 = .ok (.iload_n 2, 1) := by decide +kernel
theorem dX1_addMember_19 : decode cX1_addMember 19 = .ok (.iastore, 1) := by decide +kernel
theorem dX1_addMember_20 : decode cX1_addMember 20 = .ok (.aload_n 0, 1) := by decide +kernel
theorem dX1_addMember_21 : decode cX1_addMember 21 = .ok (.getfield 18, 3) := by decide +kernel
theorem dX1_addMember_24 : decode cX1_addMember 24 = .ok (.aload_n 0, 1) := by decide +kernel
theorem dX1_addMember_25 : decode cX1_addMember 25 = .ok (.getfield 54, 3) := by decide +kernel
theorem dX1_addMember_28 : decode cX1_addMember 28 = .ok (.iconst 0, 1) := by decide +kernel
theorem dX1_addMember_29 : decode cX1_addMember 29 = .ok (.iastore, 1) := by decide +kernel
theorem dX1_addMember_30 : decode cX1_addMember 30 = .ok (.aload_n 0, 1) := by decide +kernel
theorem dX1_addMember_31 : decode cX1_addMember 31 = .ok (.dup, 1) := by decide +kernel
theorem dX1_addMember_32 : decode cX1_addMember 32 = .ok (.getfield 54, 3) := by decide +kernel
theorem dX1_addMember_35 : decode cX1_addMember 35 = .ok (.iconst 1, 1) := by decide +kernel
theorem dX1_addMember_36 : decode cX1_addMember 36 = .ok (.iadd, 1) := by decide +kernel
theorem dX1_addMember_37 : decode cX1_addMember 37 = .ok (.putfield 54, 3) := by decide +kernel
theorem dX1_addMember_40 : decode cX1_addMember 40 = .ok (.aload_n 0, 1) := by decide +kernel
theorem dX1_addMember_41 : decode cX1_addMember 41 = .ok (.getfield 54, 3) := by decide +kernel
theorem dX1_addMember_44 : decode cX1_addMember 44 = .ok (.iconst 1, 1) := by decide +kernel
theorem dX1_addMember_45 : decode cX1_addMember 45 = .ok (.isub, 1) := by decide +kernel
theorem dX1_addMember_46 : decode cX1_addMember 46 = .ok (.ireturn, 1) := by decide +kernel
theorem dX1_addLetter_0 : decode cX1_addLetter 0 = .ok (.aload_n 0, 1) := by decide +kernel
theorem dX1_addLetter_1 : decode cX1_addLetter 1 = .ok (.getfield 21, 3) := by decide +kernel
theorem dX1_addLetter_4 : decode cX1_addLetter 4 = .ok (.aload_n 0, 1) := by decide +kernel
theorem dX1_addLetter_5 : decode cX1_addLetter 5 = .ok (.getfield 58, 3) := by decide +kernel
theorem dX1_addLetter_8 : decode cX1_addLetter 8 = .ok (.iload_n 1, 1) := by decide +kernel
theorem dX1_addLetter_9 : decode cX1_addLetter 9 = .ok (.iastore, 1) := by decide +kernel
theorem dX1_addLetter_10 : decode cX1_addLetter 10 = .ok (.aload_n 0, 1) := by decide +kernel
theorem dX1_addLetter_11 : decode cX1_addLetter 11 = .ok (.getfield 24, 3) := by decide +kernel
theorem dX1_addLetter_14 : decode cX1_addLetter 14 = .ok (.aload_n 0, 1) := by decide +kernel
theorem dX1_addLetter_15 : decode cX1_addLetter 15 = .ok (.getfield 58, 3) := by decide +kernel
theorem dX1_addLetter_18 : decode cX1_addLetter 18 = .ok (.iload_n 2, 1) := by decide +kernel
theorem dX1_addLetter_19 : decode cX1_addLetter 19 = .ok (.iastore, 1) := by decide +kernel
theorem dX1_addLetter_20 : decode cX1_addLetter 20 = .ok (.aload_n 0, 1) := by decide +kernel
theorem dX1_addLetter_21 : decode cX1_addLetter 21 = .ok (.getfield 27, 3) := by decide +kernel
theorem dX1_addLetter_24 : decode cX1_addLetter 24 = .ok (.aload_n 0, 1) := by decide +kernel
theorem dX1_addLetter_25 : decode cX1_addLetter 25 = .ok (.getfield 58, 3) := by decide +kernel
theorem dX1_addLetter_28 : decode cX1_addLetter 28 = .ok (.iload_n 3, 1) := by decide +kernel
theorem dX1_addLetter_29 : decode cX1_addLetter 29 = .ok (.iastore, 1) := by decide +kernel
theorem dX1_addLetter_30 : decode cX1_addLetter 30 = .ok (.aload_n 0, 1) := by decide +kernel
theorem dX1_addLetter_31 : decode cX1_addLetter 31 = .ok (.getfield 30, 3) := by decide +kernel
theorem dX1_addLetter_34 : decode cX1_addLetter 34 = .ok (.aload_n 0, 1) := by decide +kernel
theorem dX1_addLetter_35 : decode cX1_addLetter 35 = .ok (.getfield 58, 3) := by decide +kernel
theorem dX1_addLetter_38 : decode cX1_addLetter 38 = .ok (.iconst (-1), 1) := by decide +kernel
theorem dX1_addLetter_39 : decode cX1_addLetter 39 = .ok (.iastore, 1) := by decide +kernel
theorem dX1_addLetter_40 : decode cX1_addLetter 40 = .ok (.aload_n 0, 1) := by decide +kernel
theorem dX1_addLetter_41 : decode cX1_addLetter 41 = .ok (.dup, 1) := by decide +kernel
theorem dX1_addLetter_42 : decode cX1_addLetter 42 = .ok (.getfield 58, 3) := by decide +kernel
theorem dX1_addLetter_45 : decode cX1_addLetter 45 = .ok (.iconst 1, 1) := by decide +kernel
theorem dX1_addLetter_46 : decode cX1_addLetter 46 = .ok (.iadd, 1) := by decide +kernel
theorem dX1_addLetter_47 : decode cX1_addLetter 47 = .ok (.putfield 58, 3) := by decide +kernel
theorem dX1_addLetter_50 : decode cX1_addLetter 50 = .ok (.aload_n 0, 1) := by decide +kernel
theorem dX1_addLetter_51 : decode cX1_addLetter 51 = .ok (.getfield 58, 3) := by decide +kernel
theorem dX1_addLetter_54 : decode cX1_addLetter 54 = .ok (.iconst 1, 1) := by decide +kernel
theorem dX1_addLetter_55 : decode cX1_addLetter 55 = .ok (.isub, 1) := by decide +kernel
theorem dX1_addLetter_56 : decode cX1_addLetter 56 = .ok (.ireturn, 1) := by decide +kernel
theorem dX1_kindAt_0 : decode cX1_kindAt 0 = .ok (.aload_n 0, 1) := by decide +kernel
theorem dX1_kindAt_1 : decode cX1_kindAt 1 = .ok (.getfield 50, 3) := by decide +kernel
theorem dX1_kindAt_4 : decode cX1_kindAt 4 = .ok (.aload_n 0, 1) := by decide +kernel
theorem dX1_kindAt_5 : decode cX1_kindAt 5 = .ok (.getfield 9, 3) := by decide +kernel
theorem dX1_kindAt_8 : decode cX1_kindAt 8 = .ok (.iload_n 1, 1) := by decide +kernel
theorem dX1_kindAt_9 : decode cX1_kindAt 9 = .ok (.iaload, 1) := by decide +kernel
theorem dX1_kindAt_10 : decode cX1_kindAt 10 = .ok (.aaload, 1) := by decide +kernel
theorem dX1_kindAt_11 : decode cX1_kindAt 11 = .ok (.areturn, 1) := by decide +kernel
theorem dX1_lies_0 : decode cX1_lies 0 = .ok (.aload_n 0, 1) := by decide +kernel
theorem dX1_lies_1 : decode cX1_lies 1 = .ok (.getfield 30, 3) := by decide +kernel
theorem dX1_lies_4 : decode cX1_lies 4 = .ok (.iload_n 1, 1) := by decide +kernel
theorem dX1_lies_5 : decode cX1_lies 5 = .ok (.iaload, 1) := by decide +kernel
theorem dX1_lies_6 : decode cX1_lies 6 = .ok (.iconst (-1), 1) := by decide +kernel
theorem dX1_lies_7 : decode cX1_lies 7 = .ok (.if_icmp .ne 7, 3) := by decide +kernel
theorem dX1_lies_10 : decode cX1_lies 10 = .ok (.iconst 1, 1) := by decide +kernel
theorem dX1_lies_11 : decode cX1_lies 11 = .ok (.goto 4, 3) := by decide +kernel
theorem dX1_lies_14 : decode cX1_lies 14 = .ok (.iconst 0, 1) := by decide +kernel
theorem dX1_lies_15 : decode cX1_lies 15 = .ok (.ireturn, 1) := by decide +kernel
theorem dX1_postage_0 : decode cX1_postage 0 = .ok (.aload_n 0, 1) := by decide +kernel
theorem dX1_postage_1 : decode cX1_postage 1 = .ok (.getfield 27, 3) := by decide +kernel
theorem dX1_postage_4 : decode cX1_postage 4 = .ok (.iload_n 1, 1) := by decide +kernel
theorem dX1_postage_5 : decode cX1_postage 5 = .ok (.iaload, 1) := by decide +kernel
theorem dX1_postage_6 : decode cX1_postage 6 = .ok (.iconst 1, 1) := by decide +kernel
theorem dX1_postage_7 : decode cX1_postage 7 = .ok (.aload_n 0, 1) := by decide +kernel
theorem dX1_postage_8 : decode cX1_postage 8 = .ok (.getfield 21, 3) := by decide +kernel
theorem dX1_postage_11 : decode cX1_postage 11 = .ok (.iload_n 1, 1) := by decide +kernel
theorem dX1_postage_12 : decode cX1_postage 12 = .ok (.iaload, 1) := by decide +kernel
theorem dX1_postage_13 : decode cX1_postage 13 = .ok (.aload_n 0, 1) := by decide +kernel
theorem dX1_postage_14 : decode cX1_postage 14 = .ok (.getfield 24, 3) := by decide +kernel
theorem dX1_postage_17 : decode cX1_postage 17 = .ok (.iload_n 1, 1) := by decide +kernel
theorem dX1_postage_18 : decode cX1_postage 18 = .ok (.iaload, 1) := by decide +kernel
theorem dX1_postage_19 : decode cX1_postage 19 = .ok (.isub, 1) := by decide +kernel
theorem dX1_postage_20 : decode cX1_postage 20 = .ok (.invokestatic 89, 3) := by decide +kernel
theorem dX1_postage_23 : decode cX1_postage 23 = .ok (.bipush 15, 2) := by decide +kernel
theorem dX1_postage_25 : decode cX1_postage 25 = .ok (.idiv, 1) := by decide +kernel
theorem dX1_postage_26 : decode cX1_postage 26 = .ok (.iadd, 1) := by decide +kernel
theorem dX1_postage_27 : decode cX1_postage 27 = .ok (.imul, 1) := by decide +kernel
theorem dX1_postage_28 : decode cX1_postage 28 = .ok (.ireturn, 1) := by decide +kernel
theorem dX1_coversLeft_0 : decode cX1_coversLeft 0 = .ok (.iconst 0, 1) := by decide +kernel
theorem dX1_coversLeft_1 : decode cX1_coversLeft 1 = .ok (.aload_n 0, 1) := by decide +kernel
theorem dX1_coversLeft_2 : decode cX1_coversLeft 2 = .ok (.iload_n 1, 1) := by decide +kernel
theorem dX1_coversLeft_3 : decode cX1_coversLeft 3 = .ok (.invokevirtual 95, 3) := by decide +kernel
theorem dX1_coversLeft_6 : decode cX1_coversLeft 6 = .ok (.aload_n 0, 1) := by decide +kernel
theorem dX1_coversLeft_7 : decode cX1_coversLeft 7 = .ok (.getfield 61, 3) := by decide +kernel
theorem dX1_coversLeft_10 : decode cX1_coversLeft 10 = .ok (.invokevirtual 99, 3) := by decide +kernel
theorem dX1_coversLeft_13 : decode cX1_coversLeft 13 = .ok (.aload_n 0, 1) := by decide +kernel
theorem dX1_coversLeft_14 : decode cX1_coversLeft 14 = .ok (.getfield 18, 3) := by decide +kernel
theorem dX1_coversLeft_17 : decode cX1_coversLeft 17 = .ok (.iload_n 1, 1) := by decide +kernel
theorem dX1_coversLeft_18 : decode cX1_coversLeft 18 = .ok (.iaload, 1) := by decide +kernel
theorem dX1_coversLeft_19 : decode cX1_coversLeft 19 = .ok (.isub, 1) := by decide +kernel
theorem dX1_coversLeft_20 : decode cX1_coversLeft 20 = .ok (.invokestatic 104, 3) := by decide +kernel
theorem dX1_coversLeft_23 : decode cX1_coversLeft 23 = .ok (.ireturn, 1) := by decide +kernel
theorem dX1_suits_0 : decode cX1_suits 0 = .ok (.aload_n 0, 1) := by decide +kernel
theorem dX1_suits_1 : decode cX1_suits 1 = .ok (.iload_n 2, 1) := by decide +kernel
theorem dX1_suits_2 : decode cX1_suits 2 = .ok (.invokevirtual 95, 3) := by decide +kernel
theorem dX1_suits_5 : decode cX1_suits 5 = .ok (.astore 4, 2) := by decide +kernel
theorem dX1_suits_7 : decode cX1_suits 7 = .ok (.iload_n 3, 1) := by decide +kernel
theorem dX1_suits_8 : decode cX1_suits 8 = .ok (.aload_n 0, 1) := by decide +kernel
theorem dX1_suits_9 : decode cX1_suits 9 = .ok (.getfield 21, 3) := by decide +kernel
theorem dX1_suits_12 : decode cX1_suits 12 = .ok (.iload_n 1, 1) := by decide +kernel
theorem dX1_suits_13 : decode cX1_suits 13 = .ok (.iaload, 1) := by decide +kernel
theorem dX1_suits_14 : decode cX1_suits 14 = .ok (.isub, 1) := by decide +kernel
theorem dX1_suits_15 : decode cX1_suits 15 = .ok (.invokestatic 89, 3) := by decide +kernel
theorem dX1_suits_18 : decode cX1_suits 18 = .ok (.aload 4, 2) := by decide +kernel
theorem dX1_suits_20 : decode cX1_suits 20 = .ok (.invokevirtual 108, 3) := by decide +kernel
theorem dX1_suits_23 : decode cX1_suits 23 = .ok (.if_icmp .gt 21, 3) := by decide +kernel
theorem dX1_suits_26 : decode cX1_suits 26 = .ok (.aload_n 0, 1) := by decide +kernel
theorem dX1_suits_27 : decode cX1_suits 27 = .ok (.getfield 27, 3) := by decide +kernel
theorem dX1_suits_30 : decode cX1_suits 30 = .ok (.iload_n 1, 1) := by decide +kernel
theorem dX1_suits_31 : decode cX1_suits 31 = .ok (.iaload, 1) := by decide +kernel
theorem dX1_suits_32 : decode cX1_suits 32 = .ok (.aload 4, 2) := by decide +kernel
theorem dX1_suits_34 : decode cX1_suits 34 = .ok (.invokevirtual 112, 3) := by decide +kernel
theorem dX1_suits_37 : decode cX1_suits 37 = .ok (.if_icmp .gt 7, 3) := by decide +kernel
theorem dX1_suits_40 : decode cX1_suits 40 = .ok (.iconst 1, 1) := by decide +kernel
theorem dX1_suits_41 : decode cX1_suits 41 = .ok (.goto 4, 3) := by decide +kernel
theorem dX1_suits_44 : decode cX1_suits 44 = .ok (.iconst 0, 1) := by decide +kernel
theorem dX1_suits_45 : decode cX1_suits 45 = .ok (.ireturn, 1) := by decide +kernel
theorem dX1_mayFrank_0 : decode cX1_mayFrank 0 = .ok (.aload_n 0, 1) := by decide +kernel
theorem dX1_mayFrank_1 : decode cX1_mayFrank 1 = .ok (.iload_n 1, 1) := by decide +kernel
theorem dX1_mayFrank_2 : decode cX1_mayFrank 2 = .ok (.invokevirtual 115, 3) := by decide +kernel
theorem dX1_mayFrank_5 : decode cX1_mayFrank 5 = .ok (.ifCond .eq 43, 3) := by decide +kernel
theorem dX1_mayFrank_8 : decode cX1_mayFrank 8 = .ok (.aload_n 0, 1) := by decide +kernel
theorem dX1_mayFrank_9 : decode cX1_mayFrank 9 = .ok (.getfield 18, 3) := by decide +kernel
theorem dX1_mayFrank_12 : decode cX1_mayFrank 12 = .ok (.iload_n 2, 1) := by decide +kernel
theorem dX1_mayFrank_13 : decode cX1_mayFrank 13 = .ok (.iaload, 1) := by decide +kernel
theorem dX1_mayFrank_14 : decode cX1_mayFrank 14 = .ok (.aload_n 0, 1) := by decide +kernel
theorem dX1_mayFrank_15 : decode cX1_mayFrank 15 = .ok (.iload_n 2, 1) := by decide +kernel
theorem dX1_mayFrank_16 : decode cX1_mayFrank 16 = .ok (.invokevirtual 95, 3) := by decide +kernel
theorem dX1_mayFrank_19 : decode cX1_mayFrank 19 = .ok (.aload_n 0, 1) := by decide +kernel
theorem dX1_mayFrank_20 : decode cX1_mayFrank 20 = .ok (.getfield 61, 3) := by decide +kernel
theorem dX1_mayFrank_23 : decode cX1_mayFrank 23 = .ok (.invokevirtual 99, 3) := by decide +kernel
theorem dX1_mayFrank_26 : decode cX1_mayFrank 26 = .ok (.if_icmp .ge 22, 3) := by decide +kernel
theorem dX1_mayFrank_29 : decode cX1_mayFrank 29 = .ok (.aload_n 0, 1) := by decide +kernel
theorem dX1_mayFrank_30 : decode cX1_mayFrank 30 = .ok (.iload_n 1, 1) := by decide +kernel
theorem dX1_mayFrank_31 : decode cX1_mayFrank 31 = .ok (.iload_n 2, 1) := by decide +kernel
theorem dX1_mayFrank_32 : decode cX1_mayFrank 32 = .ok (.aload_n 0, 1) := by decide +kernel
theorem dX1_mayFrank_33 : decode cX1_mayFrank 33 = .ok (.getfield 15, 3) := by decide +kernel
theorem dX1_mayFrank_36 : decode cX1_mayFrank 36 = .ok (.iload_n 2, 1) := by decide +kernel
theorem dX1_mayFrank_37 : decode cX1_mayFrank 37 = .ok (.iaload, 1) := by decide +kernel
theorem dX1_mayFrank_38 : decode cX1_mayFrank 38 = .ok (.invokevirtual 119, 3) := by decide +kernel
theorem dX1_mayFrank_41 : decode cX1_mayFrank 41 = .ok (.ifCond .eq 7, 3) := by decide +kernel
theorem dX1_mayFrank_44 : decode cX1_mayFrank 44 = .ok (.iconst 1, 1) := by decide +kernel
theorem dX1_mayFrank_45 : decode cX1_mayFrank 45 = .ok (.goto 4, 3) := by decide +kernel
theorem dX1_mayFrank_48 : decode cX1_mayFrank 48 = .ok (.iconst 0, 1) := by decide +kernel
theorem dX1_mayFrank_49 : decode cX1_mayFrank 49 = .ok (.ireturn, 1) := by decide +kernel
theorem dX1_whoMayFrank_0 : decode cX1_whoMayFrank 0 = .ok (.iconst 0, 1) := by decide +kernel
theorem dX1_whoMayFrank_1 : decode cX1_whoMayFrank 1 = .ok (.istore_n 2, 1) := by decide +kernel
theorem dX1_whoMayFrank_2 : decode cX1_whoMayFrank 2 = .ok (.iconst 0, 1) := by decide +kernel
theorem dX1_whoMayFrank_3 : decode cX1_whoMayFrank 3 = .ok (.istore_n 3, 1) := by decide +kernel
theorem dX1_whoMayFrank_4 : decode cX1_whoMayFrank 4 = .ok (.iload_n 3, 1) := by decide +kernel
theorem dX1_whoMayFrank_5 : decode cX1_whoMayFrank 5 = .ok (.aload_n 0, 1) := by decide +kernel
theorem dX1_whoMayFrank_6 : decode cX1_whoMayFrank 6 = .ok (.getfield 54, 3) := by decide +kernel
theorem dX1_whoMayFrank_9 : decode cX1_whoMayFrank 9 = .ok (.if_icmp .ge 24, 3) := by decide +kernel
theorem dX1_whoMayFrank_12 : decode cX1_whoMayFrank 12 = .ok (.aload_n 0, 1) := by decide +kernel
theorem dX1_whoMayFrank_13 : decode cX1_whoMayFrank 13 = .ok (.iload_n 1, 1) := by decide +kernel
theorem dX1_whoMayFrank_14 : decode cX1_whoMayFrank 14 = .ok (.iload_n 3, 1) := by decide +kernel
theorem dX1_whoMayFrank_15 : decode cX1_whoMayFrank 15 = .ok (.invokevirtual 123, 3) := by decide +kernel
theorem dX1_whoMayFrank_18 : decode cX1_whoMayFrank 18 = .ok (.ifCond .eq 9, 3) := by decide +kernel
theorem dX1_whoMayFrank_21 : decode cX1_whoMayFrank 21 = .ok (.iload_n 2, 1) := by decide +kernel
theorem dX1_whoMayFrank_22 : decode cX1_whoMayFrank 22 = .ok (.iconst 1, 1) := by decide +kernel
theorem dX1_whoMayFrank_23 : decode cX1_whoMayFrank 23 = .ok (.iload_n 3, 1) := by decide +kernel
theorem dX1_whoMayFrank_24 : decode cX1_whoMayFrank 24 = .ok (.ishl, 1) := by decide +kernel
theorem dX1_whoMayFrank_25 : decode cX1_whoMayFrank 25 = .ok (.ior, 1) := by decide +kernel
theorem dX1_whoMayFrank_26 : decode cX1_whoMayFrank 26 = .ok (.istore_n 2, 1) := by decide +kernel
theorem dX1_whoMayFrank_27 : decode cX1_whoMayFrank 27 = .ok (.iinc 3 1, 3) := by decide +kernel
theorem dX1_whoMayFrank_30 : decode cX1_whoMayFrank 30 = .ok (.goto (-26), 3) := by decide +kernel
theorem dX1_whoMayFrank_33 : decode cX1_whoMayFrank 33 = .ok (.iload_n 2, 1) := by decide +kernel
theorem dX1_whoMayFrank_34 : decode cX1_whoMayFrank 34 = .ok (.ireturn, 1) := by decide +kernel
theorem dX1_sign_0 : decode cX1_sign 0 = .ok (.aload_n 0, 1) := by decide +kernel
theorem dX1_sign_1 : decode cX1_sign 1 = .ok (.getfield 30, 3) := by decide +kernel
theorem dX1_sign_4 : decode cX1_sign 4 = .ok (.iload_n 1, 1) := by decide +kernel
theorem dX1_sign_5 : decode cX1_sign 5 = .ok (.iload_n 2, 1) := by decide +kernel
theorem dX1_sign_6 : decode cX1_sign 6 = .ok (.iastore, 1) := by decide +kernel
theorem dX1_sign_7 : decode cX1_sign 7 = .ok (.aload_n 0, 1) := by decide +kernel
theorem dX1_sign_8 : decode cX1_sign 8 = .ok (.getfield 18, 3) := by decide +kernel
theorem dX1_sign_11 : decode cX1_sign 11 = .ok (.iload_n 2, 1) := by decide +kernel
theorem dX1_sign_12 : decode cX1_sign 12 = .ok (.dup2, 1) := by decide +kernel
theorem dX1_sign_13 : decode cX1_sign 13 = .ok (.iaload, 1) := by decide +kernel
theorem dX1_sign_14 : decode cX1_sign 14 = .ok (.iconst 1, 1) := by decide +kernel
theorem dX1_sign_15 : decode cX1_sign 15 = .ok (.iadd, 1) := by decide +kernel
theorem dX1_sign_16 : decode cX1_sign 16 = .ok (.iastore, 1) := by decide +kernel
theorem dX1_sign_17 : decode cX1_sign 17 = .ok (.aload_n 0, 1) := by decide +kernel
theorem dX1_sign_18 : decode cX1_sign 18 = .ok (.dup, 1) := by decide +kernel
theorem dX1_sign_19 : decode cX1_sign 19 = .ok (.getfield 64, 3) := by decide +kernel
theorem dX1_sign_22 : decode cX1_sign 22 = .ok (.aload_n 0, 1) := by decide +kernel
theorem dX1_sign_23 : decode cX1_sign 23 = .ok (.iload_n 1, 1) := by decide +kernel
theorem dX1_sign_24 : decode cX1_sign 24 = .ok (.invokevirtual 127, 3) := by decide +kernel
theorem dX1_sign_27 : decode cX1_sign 27 = .ok (.iadd, 1) := by decide +kernel
theorem dX1_sign_28 : decode cX1_sign 28 = .ok (.putfield 64, 3) := by decide +kernel
theorem dX1_sign_31 : decode cX1_sign 31 = .ok (.return_, 1) := by decide +kernel
theorem dX1_settle_0 : decode cX1_settle 0 = .ok (.aload_n 0, 1) := by decide +kernel
theorem dX1_settle_1 : decode cX1_settle 1 = .ok (.getfield 30, 3) := by decide +kernel
theorem dX1_settle_4 : decode cX1_settle 4 = .ok (.iload_n 1, 1) := by decide +kernel
theorem dX1_settle_5 : decode cX1_settle 5 = .ok (.iconst 5, 1) := by decide +kernel
theorem dX1_settle_6 : decode cX1_settle 6 = .ok (.iastore, 1) := by decide +kernel
theorem dX1_settle_7 : decode cX1_settle 7 = .ok (.aload_n 0, 1) := by decide +kernel
theorem dX1_settle_8 : decode cX1_settle 8 = .ok (.dup, 1) := by decide +kernel
theorem dX1_settle_9 : decode cX1_settle 9 = .ok (.getfield 67, 3) := by decide +kernel
theorem dX1_settle_12 : decode cX1_settle 12 = .ok (.aload_n 0, 1) := by decide +kernel
theorem dX1_settle_13 : decode cX1_settle 13 = .ok (.iload_n 1, 1) := by decide +kernel
theorem dX1_settle_14 : decode cX1_settle 14 = .ok (.invokevirtual 127, 3) := by decide +kernel
theorem dX1_settle_17 : decode cX1_settle 17 = .ok (.iadd, 1) := by decide +kernel
theorem dX1_settle_18 : decode cX1_settle 18 = .ok (.putfield 67, 3) := by decide +kernel
theorem dX1_settle_21 : decode cX1_settle 21 = .ok (.return_, 1) := by decide +kernel
theorem dX1_passDay_0 : decode cX1_passDay 0 = .ok (.aload_n 0, 1) := by decide +kernel
theorem dX1_passDay_1 : decode cX1_passDay 1 = .ok (.getfield 18, 3) := by decide +kernel
theorem dX1_passDay_4 : decode cX1_passDay 4 = .ok (.iconst 0, 1) := by decide +kernel
theorem dX1_passDay_5 : decode cX1_passDay 5 = .ok (.invokestatic 130, 3) := by decide +kernel
theorem dX1_passDay_8 : decode cX1_passDay 8 = .ok (.aload_n 0, 1) := by decide +kernel
theorem dX1_passDay_9 : decode cX1_passDay 9 = .ok (.getfield 61, 3) := by decide +kernel
theorem dX1_passDay_12 : decode cX1_passDay 12 = .ok (.sipush 999, 3) := by decide +kernel
theorem dX1_passDay_15 : decode cX1_passDay 15 = .ok (.if_icmp .ge 13, 3) := by decide +kernel
theorem dX1_passDay_18 : decode cX1_passDay 18 = .ok (.aload_n 0, 1) := by decide +kernel
theorem dX1_passDay_19 : decode cX1_passDay 19 = .ok (.dup, 1) := by decide +kernel
theorem dX1_passDay_20 : decode cX1_passDay 20 = .ok (.getfield 61, 3) := by decide +kernel
theorem dX1_passDay_23 : decode cX1_passDay 23 = .ok (.iconst 1, 1) := by decide +kernel
theorem dX1_passDay_24 : decode cX1_passDay 24 = .ok (.iadd, 1) := by decide +kernel
theorem dX1_passDay_25 : decode cX1_passDay 25 = .ok (.putfield 61, 3) := by decide +kernel
theorem dX1_passDay_28 : decode cX1_passDay 28 = .ok (.return_, 1) := by decide +kernel
theorem dX1_howManyLie_0 : decode cX1_howManyLie 0 = .ok (.iconst 0, 1) := by decide +kernel
theorem dX1_howManyLie_1 : decode cX1_howManyLie 1 = .ok (.istore_n 1, 1) := by decide +kernel
theorem dX1_howManyLie_2 : decode cX1_howManyLie 2 = .ok (.iconst 0, 1) := by decide +kernel
theorem dX1_howManyLie_3 : decode cX1_howManyLie 3 = .ok (.istore_n 2, 1) := by decide +kernel
theorem dX1_howManyLie_4 : decode cX1_howManyLie 4 = .ok (.iload_n 2, 1) := by decide +kernel
theorem dX1_howManyLie_5 : decode cX1_howManyLie 5 = .ok (.aload_n 0, 1) := by decide +kernel
theorem dX1_howManyLie_6 : decode cX1_howManyLie 6 = .ok (.getfield 58, 3) := by decide +kernel
theorem dX1_howManyLie_9 : decode cX1_howManyLie 9 = .ok (.if_icmp .ge 20, 3) := by decide +kernel
theorem dX1_howManyLie_12 : decode cX1_howManyLie 12 = .ok (.aload_n 0, 1) := by decide +kernel
theorem dX1_howManyLie_13 : decode cX1_howManyLie 13 = .ok (.iload_n 2, 1) := by decide +kernel
theorem dX1_howManyLie_14 : decode cX1_howManyLie 14 = .ok (.invokevirtual 115, 3) := by decide +kernel
theorem dX1_howManyLie_17 : decode cX1_howManyLie 17 = .ok (.ifCond .eq 6, 3) := by decide +kernel
theorem dX1_howManyLie_20 : decode cX1_howManyLie 20 = .ok (.iinc 1 1, 3) := by decide +kernel
theorem dX1_howManyLie_23 : decode cX1_howManyLie 23 = .ok (.iinc 2 1, 3) := by decide +kernel
theorem dX1_howManyLie_26 : decode cX1_howManyLie 26 = .ok (.goto (-22), 3) := by decide +kernel
theorem dX1_howManyLie_29 : decode cX1_howManyLie 29 = .ok (.iload_n 1, 1) := by decide +kernel
theorem dX1_howManyLie_30 : decode cX1_howManyLie 30 = .ok (.ireturn, 1) := by decide +kernel
theorem dX1_postageDue_0 : decode cX1_postageDue 0 = .ok (.iconst 0, 1) := by decide +kernel
theorem dX1_postageDue_1 : decode cX1_postageDue 1 = .ok (.istore_n 1, 1) := by decide +kernel
theorem dX1_postageDue_2 : decode cX1_postageDue 2 = .ok (.iconst 0, 1) := by decide +kernel
theorem dX1_postageDue_3 : decode cX1_postageDue 3 = .ok (.istore_n 2, 1) := by decide +kernel
theorem dX1_postageDue_4 : decode cX1_postageDue 4 = .ok (.iload_n 2, 1) := by decide +kernel
theorem dX1_postageDue_5 : decode cX1_postageDue 5 = .ok (.aload_n 0, 1) := by decide +kernel
theorem dX1_postageDue_6 : decode cX1_postageDue 6 = .ok (.getfield 58, 3) := by decide +kernel
theorem dX1_postageDue_9 : decode cX1_postageDue 9 = .ok (.if_icmp .ge 25, 3) := by decide +kernel
theorem dX1_postageDue_12 : decode cX1_postageDue 12 = .ok (.aload_n 0, 1) := by decide +kernel
theorem dX1_postageDue_13 : decode cX1_postageDue 13 = .ok (.iload_n 2, 1) := by decide +kernel
theorem dX1_postageDue_14 : decode cX1_postageDue 14 = .ok (.invokevirtual 115, 3) := by decide +kernel
theorem dX1_postageDue_17 : decode cX1_postageDue 17 = .ok (.ifCond .eq 11, 3) := by decide +kernel
theorem dX1_postageDue_20 : decode cX1_postageDue 20 = .ok (.iload_n 1, 1) := by decide +kernel
theorem dX1_postageDue_21 : decode cX1_postageDue 21 = .ok (.aload_n 0, 1) := by decide +kernel
theorem dX1_postageDue_22 : decode cX1_postageDue 22 = .ok (.iload_n 2, 1) := by decide +kernel
theorem dX1_postageDue_23 : decode cX1_postageDue 23 = .ok (.invokevirtual 127, 3) := by decide +kernel
theorem dX1_postageDue_26 : decode cX1_postageDue 26 = .ok (.iadd, 1) := by decide +kernel
theorem dX1_postageDue_27 : decode cX1_postageDue 27 = .ok (.istore_n 1, 1) := by decide +kernel
theorem dX1_postageDue_28 : decode cX1_postageDue 28 = .ok (.iinc 2 1, 3) := by decide +kernel
theorem dX1_postageDue_31 : decode cX1_postageDue 31 = .ok (.goto (-27), 3) := by decide +kernel
theorem dX1_postageDue_34 : decode cX1_postageDue 34 = .ok (.iload_n 1, 1) := by decide +kernel
theorem dX1_postageDue_35 : decode cX1_postageDue 35 = .ok (.ireturn, 1) := by decide +kernel
theorem dX1_postageFranked_0 : decode cX1_postageFranked 0 = .ok (.iconst 0, 1) := by decide +kernel
theorem dX1_postageFranked_1 : decode cX1_postageFranked 1 = .ok (.istore_n 1, 1) := by decide +kernel
theorem dX1_postageFranked_2 : decode cX1_postageFranked 2 = .ok (.iconst 0, 1) := by decide +kernel
theorem dX1_postageFranked_3 : decode cX1_postageFranked 3 = .ok (.istore_n 2, 1) := by decide +kernel
theorem dX1_postageFranked_4 : decode cX1_postageFranked 4 = .ok (.iload_n 2, 1) := by decide +kernel
theorem dX1_postageFranked_5 : decode cX1_postageFranked 5 = .ok (.aload_n 0, 1) := by decide +kernel
theorem dX1_postageFranked_6 : decode cX1_postageFranked 6 = .ok (.getfield 58, 3) := by decide +kernel
theorem dX1_postageFranked_9 : decode cX1_postageFranked 9 = .ok (.if_icmp .ge 35, 3) := by decide +kernel
theorem dX1_postageFranked_12 : decode cX1_postageFranked 12 = .ok (.aload_n 0, 1) := by decide +kernel
theorem dX1_postageFranked_13 : decode cX1_postageFranked 13 = .ok (.iload_n 2, 1) := by decide +kernel
theorem dX1_postageFranked_14 : decode cX1_postageFranked 14 = .ok (.invokevirtual 115, 3) := by decide +kernel
theorem dX1_postageFranked_17 : decode cX1_postageFranked 17 = .ok (.ifCond .ne 21, 3) := by decide +kernel
theorem dX1_postageFranked_20 : decode cX1_postageFranked 20 = .ok (.aload_n 0, 1) := by decide +kernel
theorem dX1_postageFranked_21 : decode cX1_postageFranked 21 = .ok (.getfield 30, 3) := by decide +kernel
theorem dX1_postageFranked_24 : decode cX1_postageFranked 24 = .ok (.iload_n 2, 1) := by decide +kernel
theorem dX1_postageFranked_25 : decode cX1_postageFranked 25 = .ok (.iaload, 1) := by decide +kernel
theorem dX1_postageFranked_26 : decode cX1_postageFranked 26 = .ok (.iconst 5, 1) := by decide +kernel
theorem dX1_postageFranked_27 : decode cX1_postageFranked 27 = .ok (.if_icmp .eq 11, 3) := by decide +kernel
theorem dX1_postageFranked_30 : decode cX1_postageFranked 30 = .ok (.iload_n 1, 1) := by decide +kernel
theorem dX1_postageFranked_31 : decode cX1_postageFranked 31 = .ok (.aload_n 0, 1) := by decide +kernel
theorem dX1_postageFranked_32 : decode cX1_postageFranked 32 = .ok (.iload_n 2, 1) := by decide +kernel
theorem dX1_postageFranked_33 : decode cX1_postageFranked 33 = .ok (.invokevirtual 127, 3) := by decide +kernel
theorem dX1_postageFranked_36 : decode cX1_postageFranked 36 = .ok (.iadd, 1) := by decide +kernel
theorem dX1_postageFranked_37 : decode cX1_postageFranked 37 = .ok (.istore_n 1, 1) := by decide +kernel
theorem dX1_postageFranked_38 : decode cX1_postageFranked 38 = .ok (.iinc 2 1, 3) := by decide +kernel
theorem dX1_postageFranked_41 : decode cX1_postageFranked 41 = .ok (.goto (-37), 3) := by decide +kernel
theorem dX1_postageFranked_44 : decode cX1_postageFranked 44 = .ok (.iload_n 1, 1) := by decide +kernel
theorem dX1_postageFranked_45 : decode cX1_postageFranked 45 = .ok (.ireturn, 1) := by decide +kernel
theorem dX1_postageOfEvery_0 : decode cX1_postageOfEvery 0 = .ok (.iconst 0, 1) := by decide +kernel
theorem dX1_postageOfEvery_1 : decode cX1_postageOfEvery 1 = .ok (.istore_n 1, 1) := by decide +kernel
theorem dX1_postageOfEvery_2 : decode cX1_postageOfEvery 2 = .ok (.iconst 0, 1) := by decide +kernel
theorem dX1_postageOfEvery_3 : decode cX1_postageOfEvery 3 = .ok (.istore_n 2, 1) := by decide +kernel
theorem dX1_postageOfEvery_4 : decode cX1_postageOfEvery 4 = .ok (.iload_n 2, 1) := by decide +kernel
theorem dX1_postageOfEvery_5 : decode cX1_postageOfEvery 5 = .ok (.aload_n 0, 1) := by decide +kernel
theorem dX1_postageOfEvery_6 : decode cX1_postageOfEvery 6 = .ok (.getfield 58, 3) := by decide +kernel
theorem dX1_postageOfEvery_9 : decode cX1_postageOfEvery 9 = .ok (.if_icmp .ge 17, 3) := by decide +kernel
theorem dX1_postageOfEvery_12 : decode cX1_postageOfEvery 12 = .ok (.iload_n 1, 1) := by decide +kernel
theorem dX1_postageOfEvery_13 : decode cX1_postageOfEvery 13 = .ok (.aload_n 0, 1) := by decide +kernel
theorem dX1_postageOfEvery_14 : decode cX1_postageOfEvery 14 = .ok (.iload_n 2, 1) := by decide +kernel
theorem dX1_postageOfEvery_15 : decode cX1_postageOfEvery 15 = .ok (.invokevirtual 127, 3) := by decide +kernel
theorem dX1_postageOfEvery_18 : decode cX1_postageOfEvery 18 = .ok (.iadd, 1) := by decide +kernel
theorem dX1_postageOfEvery_19 : decode cX1_postageOfEvery 19 = .ok (.istore_n 1, 1) := by decide +kernel
theorem dX1_postageOfEvery_20 : decode cX1_postageOfEvery 20 = .ok (.iinc 2 1, 3) := by decide +kernel
theorem dX1_postageOfEvery_23 : decode cX1_postageOfEvery 23 = .ok (.goto (-19), 3) := by decide +kernel
theorem dX1_postageOfEvery_26 : decode cX1_postageOfEvery 26 = .ok (.iload_n 1, 1) := by decide +kernel
theorem dX1_postageOfEvery_27 : decode cX1_postageOfEvery 27 = .ok (.ireturn, 1) := by decide +kernel
theorem dX1_weightOfEvery_0 : decode cX1_weightOfEvery 0 = .ok (.iconst 0, 1) := by decide +kernel
theorem dX1_weightOfEvery_1 : decode cX1_weightOfEvery 1 = .ok (.istore_n 1, 1) := by decide +kernel
theorem dX1_weightOfEvery_2 : decode cX1_weightOfEvery 2 = .ok (.iconst 0, 1) := by decide +kernel
theorem dX1_weightOfEvery_3 : decode cX1_weightOfEvery 3 = .ok (.istore_n 2, 1) := by decide +kernel
theorem dX1_weightOfEvery_4 : decode cX1_weightOfEvery 4 = .ok (.iload_n 2, 1) := by decide +kernel
theorem dX1_weightOfEvery_5 : decode cX1_weightOfEvery 5 = .ok (.aload_n 0, 1) := by decide +kernel
theorem dX1_weightOfEvery_6 : decode cX1_weightOfEvery 6 = .ok (.getfield 58, 3) := by decide +kernel
theorem dX1_weightOfEvery_9 : decode cX1_weightOfEvery 9 = .ok (.if_icmp .ge 18, 3) := by decide +kernel
theorem dX1_weightOfEvery_12 : decode cX1_weightOfEvery 12 = .ok (.iload_n 1, 1) := by decide +kernel
theorem dX1_weightOfEvery_13 : decode cX1_weightOfEvery 13 = .ok (.aload_n 0, 1) := by decide +kernel
theorem dX1_weightOfEvery_14 : decode cX1_weightOfEvery 14 = .ok (.getfield 27, 3) := by decide +kernel
theorem dX1_weightOfEvery_17 : decode cX1_weightOfEvery 17 = .ok (.iload_n 2, 1) := by decide +kernel
theorem dX1_weightOfEvery_18 : decode cX1_weightOfEvery 18 = .ok (.iaload, 1) := by decide +kernel
theorem dX1_weightOfEvery_19 : decode cX1_weightOfEvery 19 = .ok (.iadd, 1) := by decide +kernel
theorem dX1_weightOfEvery_20 : decode cX1_weightOfEvery 20 = .ok (.istore_n 1, 1) := by decide +kernel
theorem dX1_weightOfEvery_21 : decode cX1_weightOfEvery 21 = .ok (.iinc 2 1, 3) := by decide +kernel
theorem dX1_weightOfEvery_24 : decode cX1_weightOfEvery 24 = .ok (.goto (-20), 3) := by decide +kernel
theorem dX1_weightOfEvery_27 : decode cX1_weightOfEvery 27 = .ok (.iload_n 1, 1) := by decide +kernel
theorem dX1_weightOfEvery_28 : decode cX1_weightOfEvery 28 = .ok (.ireturn, 1) := by decide +kernel
theorem dX2_init_0 : decode cX2_init 0 = .ok (.aload_n 0, 1) := by decide +kernel
theorem dX2_init_1 : decode cX2_init 1 = .ok (.invokespecial 1, 3) := by decide +kernel
theorem dX2_init_4 : decode cX2_init 4 = .ok (.return_, 1) := by decide +kernel
theorem dX2_bears_0 : decode cX2_bears 0 = .ok (.aload_n 0, 1) := by decide +kernel
theorem dX2_bears_1 : decode cX2_bears 1 = .ok (.invokespecial 7, 3) := by decide +kernel
theorem dX2_bears_4 : decode cX2_bears 4 = .ok (.iconst 3, 1) := by decide +kernel
theorem dX2_bears_5 : decode cX2_bears 5 = .ok (.iadd, 1) := by decide +kernel
theorem dX2_bears_6 : decode cX2_bears 6 = .ok (.ireturn, 1) := by decide +kernel
theorem dX3_init_0 : decode cX3_init 0 = .ok (.aload_n 0, 1) := by decide +kernel
theorem dX3_init_1 : decode cX3_init 1 = .ok (.invokespecial 3, 3) := by decide +kernel
theorem dX3_init_4 : decode cX3_init 4 = .ok (.aload_n 0, 1) := by decide +kernel
theorem dX3_init_5 : decode cX3_init 5 = .ok (.bipush 6, 2) := by decide +kernel
theorem dX3_init_7 : decode cX3_init 7 = .ok (.newarray .int, 2) := by decide +kernel
theorem dX3_init_9 : decode cX3_init 9 = .ok (.putfield 9, 3) := by decide +kernel
theorem dX3_init_12 : decode cX3_init 12 = .ok (.aload_n 0, 1) := by decide +kernel
theorem dX3_init_13 : decode cX3_init 13 = .ok (.bipush 6, 2) := by decide +kernel
theorem dX3_init_15 : decode cX3_init 15 = .ok (.newarray .int, 2) := by decide +kernel
theorem dX3_init_17 : decode cX3_init 17 = .ok (.putfield 15, 3) := by decide +kernel
theorem dX3_init_20 : decode cX3_init 20 = .ok (.aload_n 0, 1) := by decide +kernel
theorem dX3_init_21 : decode cX3_init 21 = .ok (.bipush 6, 2) := by decide +kernel
theorem dX3_init_23 : decode cX3_init 23 = .ok (.newarray .boolean, 2) := by decide +kernel
theorem dX3_init_25 : decode cX3_init 25 = .ok (.putfield 18, 3) := by decide +kernel
theorem dX3_init_28 : decode cX3_init 28 = .ok (.aload_n 0, 1) := by decide +kernel
theorem dX3_init_29 : decode cX3_init 29 = .ok (.iconst 5, 1) := by decide +kernel
theorem dX3_init_30 : decode cX3_init 30 = .ok (.newarray .int, 2) := by decide +kernel
theorem dX3_init_32 : decode cX3_init 32 = .ok (.putfield 22, 3) := by decide +kernel
theorem dX3_init_35 : decode cX3_init 35 = .ok (.aload_n 0, 1) := by decide +kernel
theorem dX3_init_36 : decode cX3_init 36 = .ok (.bipush 6, 2) := by decide +kernel
theorem dX3_init_38 : decode cX3_init 38 = .ok (.newarray .int, 2) := by decide +kernel
theorem dX3_init_40 : decode cX3_init 40 = .ok (.putfield 25, 3) := by decide +kernel
theorem dX3_init_43 : decode cX3_init 43 = .ok (.aload_n 0, 1) := by decide +kernel
theorem dX3_init_44 : decode cX3_init 44 = .ok (.bipush 6, 2) := by decide +kernel
theorem dX3_init_46 : decode cX3_init 46 = .ok (.newarray .int, 2) := by decide +kernel
theorem dX3_init_48 : decode cX3_init 48 = .ok (.putfield 28, 3) := by decide +kernel
theorem dX3_init_51 : decode cX3_init 51 = .ok (.aload_n 0, 1) := by decide +kernel
theorem dX3_init_52 : decode cX3_init 52 = .ok (.bipush 6, 2) := by decide +kernel
theorem dX3_init_54 : decode cX3_init 54 = .ok (.newarray .int, 2) := by decide +kernel
theorem dX3_init_56 : decode cX3_init 56 = .ok (.putfield 31, 3) := by decide +kernel
theorem dX3_init_59 : decode cX3_init 59 = .ok (.return_, 1) := by decide +kernel
theorem dX3_solve_0 : decode cX3_solve 0 = .ok (.aload_n 0, 1) := by decide +kernel
theorem dX3_solve_1 : decode cX3_solve 1 = .ok (.aload_n 1, 1) := by decide +kernel
theorem dX3_solve_2 : decode cX3_solve 2 = .ok (.getfield 34, 3) := by decide +kernel
theorem dX3_solve_5 : decode cX3_solve 5 = .ok (.putfield 40, 3) := by decide +kernel
theorem dX3_solve_8 : decode cX3_solve 8 = .ok (.iconst 0, 1) := by decide +kernel
theorem dX3_solve_9 : decode cX3_solve 9 = .ok (.istore_n 3, 1) := by decide +kernel
theorem dX3_solve_10 : decode cX3_solve 10 = .ok (.iconst 0, 1) := by decide +kernel
theorem dX3_solve_11 : decode cX3_solve 11 = .ok (.istore 4, 2) := by decide +kernel
theorem dX3_solve_13 : decode cX3_solve 13 = .ok (.iload 4, 2) := by decide +kernel
theorem dX3_solve_15 : decode cX3_solve 15 = .ok (.aload_n 0, 1) := by decide +kernel
theorem dX3_solve_16 : decode cX3_solve 16 = .ok (.getfield 40, 3) := by decide +kernel
theorem dX3_solve_19 : decode cX3_solve 19 = .ok (.if_icmp .ge 74, 3) := by decide +kernel
theorem dX3_solve_22 : decode cX3_solve 22 = .ok (.aload_n 0, 1) := by decide +kernel
theorem dX3_solve_23 : decode cX3_solve 23 = .ok (.getfield 18, 3) := by decide +kernel
theorem dX3_solve_26 : decode cX3_solve 26 = .ok (.iload 4, 2) := by decide +kernel
theorem dX3_solve_28 : decode cX3_solve 28 = .ok (.aload_n 1, 1) := by decide +kernel
theorem dX3_solve_29 : decode cX3_solve 29 = .ok (.iload 4, 2) := by decide +kernel
theorem dX3_solve_31 : decode cX3_solve 31 = .ok (.invokevirtual 41, 3) := by decide +kernel
theorem dX3_solve_34 : decode cX3_solve 34 = .ok (.bastore, 1) := by decide +kernel
theorem dX3_solve_35 : decode cX3_solve 35 = .ok (.aload_n 0, 1) := by decide +kernel
theorem dX3_solve_36 : decode cX3_solve 36 = .ok (.getfield 9, 3) := by decide +kernel
theorem dX3_solve_39 : decode cX3_solve 39 = .ok (.iload 4, 2) := by decide +kernel
theorem dX3_solve_41 : decode cX3_solve 41 = .ok (.aload_n 1, 1) := by decide +kernel
theorem dX3_solve_42 : decode cX3_solve 42 = .ok (.iload 4, 2) := by decide +kernel
theorem dX3_solve_44 : decode cX3_solve 44 = .ok (.invokevirtual 45, 3) := by decide +kernel
theorem dX3_solve_47 : decode cX3_solve 47 = .ok (.iload_n 2, 1) := by decide +kernel
theorem dX3_solve_48 : decode cX3_solve 48 = .ok (.iand, 1) := by decide +kernel
theorem dX3_solve_49 : decode cX3_solve 49 = .ok (.iastore, 1) := by decide +kernel
theorem dX3_solve_50 : decode cX3_solve 50 = .ok (.aload_n 0, 1) := by decide +kernel
theorem dX3_solve_51 : decode cX3_solve 51 = .ok (.getfield 15, 3) := by decide +kernel
theorem dX3_solve_54 : decode cX3_solve 54 = .ok (.iload 4, 2) := by decide +kernel
theorem dX3_solve_56 : decode cX3_solve 56 = .ok (.aload_n 0, 1) := by decide +kernel
theorem dX3_solve_57 : decode cX3_solve 57 = .ok (.getfield 9, 3) := by decide +kernel
theorem dX3_solve_60 : decode cX3_solve 60 = .ok (.iload 4, 2) := by decide +kernel
theorem dX3_solve_62 : decode cX3_solve 62 = .ok (.iaload, 1) := by decide +kernel
theorem dX3_solve_63 : decode cX3_solve 63 = .ok (.ifCond .ne 7, 3) := by decide +kernel
theorem dX3_solve_66 : decode cX3_solve 66 = .ok (.iconst 0, 1) := by decide +kernel
theorem dX3_solve_67 : decode cX3_solve 67 = .ok (.goto 9, 3) := by decide +kernel
theorem dX3_solve_70 : decode cX3_solve 70 = .ok (.aload_n 1, 1) := by decide +kernel
theorem dX3_solve_71 : decode cX3_solve 71 = .ok (.iload 4, 2) := by decide +kernel
theorem dX3_solve_73 : decode cX3_solve 73 = .ok (.invokevirtual 49, 3) := by decide +kernel
theorem dX3_solve_76 : decode cX3_solve 76 = .ok (.iastore, 1) := by decide +kernel
theorem dX3_solve_77 : decode cX3_solve 77 = .ok (.iload_n 3, 1) := by decide +kernel
theorem dX3_solve_78 : decode cX3_solve 78 = .ok (.aload_n 0, 1) := by decide +kernel
theorem dX3_solve_79 : decode cX3_solve 79 = .ok (.getfield 15, 3) := by decide +kernel
theorem dX3_solve_82 : decode cX3_solve 82 = .ok (.iload 4, 2) := by decide +kernel
theorem dX3_solve_84 : decode cX3_solve 84 = .ok (.iaload, 1) := by decide +kernel
theorem dX3_solve_85 : decode cX3_solve 85 = .ok (.iadd, 1) := by decide +kernel
theorem dX3_solve_86 : decode cX3_solve 86 = .ok (.istore_n 3, 1) := by decide +kernel
theorem dX3_solve_87 : decode cX3_solve 87 = .ok (.iinc 4 1, 3) := by decide +kernel
theorem dX3_solve_90 : decode cX3_solve 90 = .ok (.goto (-77), 3) := by decide +kernel
theorem dX3_solve_93 : decode cX3_solve 93 = .ok (.iconst 0, 1) := by decide +kernel
theorem dX3_solve_94 : decode cX3_solve 94 = .ok (.istore 4, 2) := by decide +kernel
theorem dX3_solve_96 : decode cX3_solve 96 = .ok (.iload 4, 2) := by decide +kernel
theorem dX3_solve_98 : decode cX3_solve 98 = .ok (.iconst 5, 1) := by decide +kernel
theorem dX3_solve_99 : decode cX3_solve 99 = .ok (.if_icmp .ge 35, 3) := by decide +kernel
theorem dX3_solve_102 : decode cX3_solve 102 = .ok (.aload_n 0, 1) := by decide +kernel
theorem dX3_solve_103 : decode cX3_solve 103 = .ok (.getfield 22, 3) := by decide +kernel
theorem dX3_solve_106 : decode cX3_solve 106 = .ok (.iload 4, 2) := by decide +kernel
theorem dX3_solve_108 : decode cX3_solve 108 = .ok (.iload 4, 2) := by decide +kernel
theorem dX3_solve_110 : decode cX3_solve 110 = .ok (.aload_n 1, 1) := by decide +kernel
theorem dX3_solve_111 : decode cX3_solve 111 = .ok (.getfield 52, 3) := by decide +kernel
theorem dX3_solve_114 : decode cX3_solve 114 = .ok (.if_icmp .ge 12, 3) := by decide +kernel
theorem dX3_solve_117 : decode cX3_solve 117 = .ok (.aload_n 1, 1) := by decide +kernel
theorem dX3_solve_118 : decode cX3_solve 118 = .ok (.iload 4, 2) := by decide +kernel
theorem dX3_solve_120 : decode cX3_solve 120 = .ok (.invokevirtual 55, 3) := by decide +kernel
theorem dX3_solve_123 : decode cX3_solve 123 = .ok (.goto 4, 3) := by decide +kernel
theorem dX3_solve_126 : decode cX3_solve 126 = .ok (.iconst 0, 1) := by decide +kernel
theorem dX3_solve_127 : decode cX3_solve 127 = .ok (.iastore, 1) := by decide +kernel
theorem dX3_solve_128 : decode cX3_solve 128 = .ok (.iinc 4 1, 3) := by decide +kernel
theorem dX3_solve_131 : decode cX3_solve 131 = .ok (.goto (-35), 3) := by decide +kernel
theorem dX3_solve_134 : decode cX3_solve 134 = .ok (.aload_n 0, 1) := by decide +kernel
theorem dX3_solve_135 : decode cX3_solve 135 = .ok (.iconst (-1), 1) := by decide +kernel
theorem dX3_solve_136 : decode cX3_solve 136 = .ok (.putfield 58, 3) := by decide +kernel
theorem dX3_solve_139 : decode cX3_solve 139 = .ok (.aload_n 0, 1) := by decide +kernel
theorem dX3_solve_140 : decode cX3_solve 140 = .ok (.iconst 0, 1) := by decide +kernel
theorem dX3_solve_141 : decode cX3_solve 141 = .ok (.iconst 0, 1) := by decide +kernel
theorem dX3_solve_142 : decode cX3_solve 142 = .ok (.iload_n 3, 1) := by decide +kernel
theorem dX3_solve_143 : decode cX3_solve 143 = .ok (.invokevirtual 61, 3) := by decide +kernel
theorem dX3_solve_146 : decode cX3_solve 146 = .ok (.aload_n 0, 1) := by decide +kernel
theorem dX3_solve_147 : decode cX3_solve 147 = .ok (.getfield 58, 3) := by decide +kernel
theorem dX3_solve_150 : decode cX3_solve 150 = .ok (.ireturn, 1) := by decide +kernel
theorem dX3_place_0 : decode cX3_place 0 = .ok (.iload_n 2, 1) := by decide +kernel
theorem dX3_place_1 : decode cX3_place 1 = .ok (.iload_n 3, 1) := by decide +kernel
theorem dX3_place_2 : decode cX3_place 2 = .ok (.iadd, 1) := by decide +kernel
theorem dX3_place_3 : decode cX3_place 3 = .ok (.aload_n 0, 1) := by decide +kernel
theorem dX3_place_4 : decode cX3_place 4 = .ok (.getfield 58, 3) := by decide +kernel
theorem dX3_place_7 : decode cX3_place 7 = .ok (.if_icmp .gt 4, 3) := by decide +kernel
theorem dX3_place_10 : decode cX3_place 10 = .ok (.return_, 1) := by decide +kernel
theorem dX3_place_11 : decode cX3_place 11 = .ok (.iload_n 1, 1) := by decide +kernel
theorem dX3_place_12 : decode cX3_place 12 = .ok (.aload_n 0, 1) := by decide +kernel
theorem dX3_place_13 : decode cX3_place 13 = .ok (.getfield 40, 3) := by decide +kernel
theorem dX3_place_16 : decode cX3_place 16 = .ok (.if_icmp .lt 24, 3) := by decide +kernel
theorem dX3_place_19 : decode cX3_place 19 = .ok (.aload_n 0, 1) := by decide +kernel
theorem dX3_place_20 : decode cX3_place 20 = .ok (.iload_n 2, 1) := by decide +kernel
theorem dX3_place_21 : decode cX3_place 21 = .ok (.putfield 58, 3) := by decide +kernel
theorem dX3_place_24 : decode cX3_place 24 = .ok (.aload_n 0, 1) := by decide +kernel
theorem dX3_place_25 : decode cX3_place 25 = .ok (.getfield 25, 3) := by decide +kernel
theorem dX3_place_28 : decode cX3_place 28 = .ok (.iconst 0, 1) := by decide +kernel
theorem dX3_place_29 : decode cX3_place 29 = .ok (.aload_n 0, 1) := by decide +kernel
theorem dX3_place_30 : decode cX3_place 30 = .ok (.getfield 28, 3) := by decide +kernel
theorem dX3_place_33 : decode cX3_place 33 = .ok (.iconst 0, 1) := by decide +kernel
theorem dX3_place_34 : decode cX3_place 34 = .ok (.bipush 6, 2) := by decide +kernel
theorem dX3_place_36 : decode cX3_place 36 = .ok (.invokestatic 65, 3) := by decide +kernel
theorem dX3_place_39 : decode cX3_place 39 = .ok (.return_, 1) := by decide +kernel
theorem dX3_place_40 : decode cX3_place 40 = .ok (.aload_n 0, 1) := by decide +kernel
theorem dX3_place_41 : decode cX3_place 41 = .ok (.getfield 18, 3) := by decide +kernel
theorem dX3_place_44 : decode cX3_place 44 = .ok (.iload_n 1, 1) := by decide +kernel
theorem dX3_place_45 : decode cX3_place 45 = .ok (.baload, 1) := by decide +kernel
theorem dX3_place_46 : decode cX3_place 46 = .ok (.ifCond .ne 21, 3) := by decide +kernel
theorem dX3_place_49 : decode cX3_place 49 = .ok (.aload_n 0, 1) := by decide +kernel
theorem dX3_place_50 : decode cX3_place 50 = .ok (.getfield 25, 3) := by decide +kernel
theorem dX3_place_53 : decode cX3_place 53 = .ok (.iload_n 1, 1) := by decide +kernel
theorem dX3_place_54 : decode cX3_place 54 = .ok (.bipush 6, 2) := by decide +kernel
theorem dX3_place_56 : decode cX3_place 56 = .ok (.iastore, 1) := by decide +kernel
theorem dX3_place_57 : decode cX3_place 57 = .ok (.aload_n 0, 1) := by decide +kernel
theorem dX3_place_58 : decode cX3_place 58 = .ok (.iload_n 1, 1) := by decide +kernel
theorem dX3_place_59 : decode cX3_place 59 = .ok (.iconst 1, 1) := by decide +kernel
theorem dX3_place_60 : decode cX3_place 60 = .ok (.iadd, 1) := by decide +kernel
theorem dX3_place_61 : decode cX3_place 61 = .ok (.iload_n 2, 1) := by decide +kernel
theorem dX3_place_62 : decode cX3_place 62 = .ok (.iload_n 3, 1) := by decide +kernel
theorem dX3_place_63 : decode cX3_place 63 = .ok (.invokevirtual 61, 3) := by decide +kernel
theorem dX3_place_66 : decode cX3_place 66 = .ok (.return_, 1) := by decide +kernel
theorem dX3_place_67 : decode cX3_place 67 = .ok (.iconst 0, 1) := by decide +kernel
theorem dX3_place_68 : decode cX3_place 68 = .ok (.istore 4, 2) := by decide +kernel
theorem dX3_place_70 : decode cX3_place 70 = .ok (.iload 4, 2) := by decide +kernel
theorem dX3_place_72 : decode cX3_place 72 = .ok (.iconst 5, 1) := by decide +kernel
theorem dX3_place_73 : decode cX3_place 73 = .ok (.if_icmp .ge 87, 3) := by decide +kernel
theorem dX3_place_76 : decode cX3_place 76 = .ok (.aload_n 0, 1) := by decide +kernel
theorem dX3_place_77 : decode cX3_place 77 = .ok (.getfield 9, 3) := by decide +kernel
theorem dX3_place_80 : decode cX3_place 80 = .ok (.iload_n 1, 1) := by decide +kernel
theorem dX3_place_81 : decode cX3_place 81 = .ok (.iaload, 1) := by decide +kernel
theorem dX3_place_82 : decode cX3_place 82 = .ok (.iload 4, 2) := by decide +kernel
theorem dX3_place_84 : decode cX3_place 84 = .ok (.ishr, 1) := by decide +kernel
theorem dX3_place_85 : decode cX3_place 85 = .ok (.iconst 1, 1) := by decide +kernel
theorem dX3_place_86 : decode cX3_place 86 = .ok (.iand, 1) := by decide +kernel
theorem dX3_place_87 : decode cX3_place 87 = .ok (.iconst 1, 1) := by decide +kernel
theorem dX3_place_88 : decode cX3_place 88 = .ok (.if_icmp .ne 66, 3) := by decide +kernel
theorem dX3_place_91 : decode cX3_place 91 = .ok (.aload_n 0, 1) := by decide +kernel
theorem dX3_place_92 : decode cX3_place 92 = .ok (.getfield 22, 3) := by decide +kernel
theorem dX3_place_95 : decode cX3_place 95 = .ok (.iload 4, 2) := by decide +kernel
theorem dX3_place_97 : decode cX3_place 97 = .ok (.iaload, 1) := by decide +kernel
theorem dX3_place_98 : decode cX3_place 98 = .ok (.ifCond .le 56, 3) := by decide +kernel
theorem dX3_place_101 : decode cX3_place 101 = .ok (.aload_n 0, 1) := by decide +kernel
theorem dX3_place_102 : decode cX3_place 102 = .ok (.getfield 22, 3) := by decide +kernel
theorem dX3_place_105 : decode cX3_place 105 = .ok (.iload 4, 2) := by decide +kernel
theorem dX3_place_107 : decode cX3_place 107 = .ok (.dup2, 1) := by decide +kernel
theorem dX3_place_108 : decode cX3_place 108 = .ok (.iaload, 1) := by decide +kernel
theorem dX3_place_109 : decode cX3_place 109 = .ok (.iconst 1, 1) := by decide +kernel
theorem dX3_place_110 : decode cX3_place 110 = .ok (.isub, 1) := by decide +kernel
theorem dX3_place_111 : decode cX3_place 111 = .ok (.iastore, 1) := by decide +kernel
theorem dX3_place_112 : decode cX3_place 112 = .ok (.aload_n 0, 1) := by decide +kernel
theorem dX3_place_113 : decode cX3_place 113 = .ok (.getfield 25, 3) := by decide +kernel
theorem dX3_place_116 : decode cX3_place 116 = .ok (.iload_n 1, 1) := by decide +kernel
theorem dX3_place_117 : decode cX3_place 117 = .ok (.iload 4, 2) := by decide +kernel
theorem dX3_place_119 : decode cX3_place 119 = .ok (.iastore, 1) := by decide +kernel
theorem dX3_place_120 : decode cX3_place 120 = .ok (.aload_n 0, 1) := by decide +kernel
theorem dX3_place_121 : decode cX3_place 121 = .ok (.iload_n 1, 1) := by decide +kernel
theorem dX3_place_122 : decode cX3_place 122 = .ok (.iconst 1, 1) := by decide +kernel
theorem dX3_place_123 : decode cX3_place 123 = .ok (.iadd, 1) := by decide +kernel
theorem dX3_place_124 : decode cX3_place 124 = .ok (.iload_n 2, 1) := by decide +kernel
theorem dX3_place_125 : decode cX3_place 125 = .ok (.aload_n 0, 1) := by decide +kernel
theorem dX3_place_126 : decode cX3_place 126 = .ok (.getfield 15, 3) := by decide +kernel
theorem dX3_place_129 : decode cX3_place 129 = .ok (.iload_n 1, 1) := by decide +kernel
theorem dX3_place_130 : decode cX3_place 130 = .ok (.iaload, 1) := by decide +kernel
theorem dX3_place_131 : decode cX3_place 131 = .ok (.iadd, 1) := by decide +kernel
theorem dX3_place_132 : decode cX3_place 132 = .ok (.iload_n 3, 1) := by decide +kernel
theorem dX3_place_133 : decode cX3_place 133 = .ok (.aload_n 0, 1) := by decide +kernel
theorem dX3_place_134 : decode cX3_place 134 = .ok (.getfield 15, 3) := by decide +kernel
theorem dX3_place_137 : decode cX3_place 137 = .ok (.iload_n 1, 1) := by decide +kernel
theorem dX3_place_138 : decode cX3_place 138 = .ok (.iaload, 1) := by decide +kernel
theorem dX3_place_139 : decode cX3_place 139 = .ok (.isub, 1) := by decide +kernel
theorem dX3_place_140 : decode cX3_place 140 = .ok (.invokevirtual 61, 3) := by decide +kernel
theorem dX3_place_143 : decode cX3_place 143 = .ok (.aload_n 0, 1) := by decide +kernel
theorem dX3_place_144 : decode cX3_place 144 = .ok (.getfield 22, 3) := by decide +kernel
theorem dX3_place_147 : decode cX3_place 147 = .ok (.iload 4, 2) := by decide +kernel
theorem dX3_place_149 : decode cX3_place 149 = .ok (.dup2, 1) := by decide +kernel
theorem dX3_place_150 : decode cX3_place 150 = .ok (.iaload, 1) := by decide +kernel
theorem dX3_place_151 : decode cX3_place 151 = .ok (.iconst 1, 1) := by decide +kernel
theorem dX3_place_152 : decode cX3_place 152 = .ok (.iadd, 1) := by decide +kernel
theorem dX3_place_153 : decode cX3_place 153 = .ok (.iastore, 1) := by decide +kernel
theorem dX3_place_154 : decode cX3_place 154 = .ok (.iinc 4 1, 3) := by decide +kernel
theorem dX3_place_157 : decode cX3_place 157 = .ok (.goto (-87), 3) := by decide +kernel
theorem dX3_place_160 : decode cX3_place 160 = .ok (.aload_n 0, 1) := by decide +kernel
theorem dX3_place_161 : decode cX3_place 161 = .ok (.getfield 25, 3) := by decide +kernel
theorem dX3_place_164 : decode cX3_place 164 = .ok (.iload_n 1, 1) := by decide +kernel
theorem dX3_place_165 : decode cX3_place 165 = .ok (.iconst 5, 1) := by decide +kernel
theorem dX3_place_166 : decode cX3_place 166 = .ok (.iastore, 1) := by decide +kernel
theorem dX3_place_167 : decode cX3_place 167 = .ok (.aload_n 0, 1) := by decide +kernel
theorem dX3_place_168 : decode cX3_place 168 = .ok (.iload_n 1, 1) := by decide +kernel
theorem dX3_place_169 : decode cX3_place 169 = .ok (.iconst 1, 1) := by decide +kernel
theorem dX3_place_170 : decode cX3_place 170 = .ok (.iadd, 1) := by decide +kernel
theorem dX3_place_171 : decode cX3_place 171 = .ok (.iload_n 2, 1) := by decide +kernel
theorem dX3_place_172 : decode cX3_place 172 = .ok (.iload_n 3, 1) := by decide +kernel
theorem dX3_place_173 : decode cX3_place 173 = .ok (.aload_n 0, 1) := by decide +kernel
theorem dX3_place_174 : decode cX3_place 174 = .ok (.getfield 15, 3) := by decide +kernel
theorem dX3_place_177 : decode cX3_place 177 = .ok (.iload_n 1, 1) := by decide +kernel
theorem dX3_place_178 : decode cX3_place 178 = .ok (.iaload, 1) := by decide +kernel
theorem dX3_place_179 : decode cX3_place 179 = .ok (.isub, 1) := by decide +kernel
theorem dX3_place_180 : decode cX3_place 180 = .ok (.invokevirtual 61, 3) := by decide +kernel
theorem dX3_place_183 : decode cX3_place 183 = .ok (.return_, 1) := by decide +kernel
theorem dX3_bestPlace_0 : decode cX3_bestPlace 0 = .ok (.aload_n 0, 1) := by decide +kernel
theorem dX3_bestPlace_1 : decode cX3_bestPlace 1 = .ok (.aload_n 1, 1) := by decide +kernel
theorem dX3_bestPlace_2 : decode cX3_bestPlace 2 = .ok (.invokevirtual 71, 3) := by decide +kernel
theorem dX3_bestPlace_5 : decode cX3_bestPlace 5 = .ok (.aload_n 1, 1) := by decide +kernel
theorem dX3_bestPlace_6 : decode cX3_bestPlace 6 = .ok (.iload_n 2, 1) := by decide +kernel
theorem dX3_bestPlace_7 : decode cX3_bestPlace 7 = .ok (.invokevirtual 55, 3) := by decide +kernel
theorem dX3_bestPlace_10 : decode cX3_bestPlace 10 = .ok (.istore_n 3, 1) := by decide +kernel
theorem dX3_bestPlace_11 : decode cX3_bestPlace 11 = .ok (.iconst 0, 1) := by decide +kernel
theorem dX3_bestPlace_12 : decode cX3_bestPlace 12 = .ok (.istore 4, 2) := by decide +kernel
theorem dX3_bestPlace_14 : decode cX3_bestPlace 14 = .ok (.aload_n 0, 1) := by decide +kernel
theorem dX3_bestPlace_15 : decode cX3_bestPlace 15 = .ok (.iconst (-1), 1) := by decide +kernel
theorem dX3_bestPlace_16 : decode cX3_bestPlace 16 = .ok (.putfield 58, 3) := by decide +kernel
theorem dX3_bestPlace_19 : decode cX3_bestPlace 19 = .ok (.iconst 0, 1) := by decide +kernel
theorem dX3_bestPlace_20 : decode cX3_bestPlace 20 = .ok (.istore 5, 2) := by decide +kernel
theorem dX3_bestPlace_22 : decode cX3_bestPlace 22 = .ok (.iload 5, 2) := by decide +kernel
theorem dX3_bestPlace_24 : decode cX3_bestPlace 24 = .ok (.bipush 99, 2) := by decide +kernel
theorem dX3_bestPlace_26 : decode cX3_bestPlace 26 = .ok (.if_icmp .gt 39, 3) := by decide +kernel
theorem dX3_bestPlace_29 : decode cX3_bestPlace 29 = .ok (.aload_n 0, 1) := by decide +kernel
theorem dX3_bestPlace_30 : decode cX3_bestPlace 30 = .ok (.aload_n 1, 1) := by decide +kernel
theorem dX3_bestPlace_31 : decode cX3_bestPlace 31 = .ok (.iload_n 2, 1) := by decide +kernel
theorem dX3_bestPlace_32 : decode cX3_bestPlace 32 = .ok (.iload 5, 2) := by decide +kernel
theorem dX3_bestPlace_34 : decode cX3_bestPlace 34 = .ok (.iload_n 3, 1) := by decide +kernel
theorem dX3_bestPlace_35 : decode cX3_bestPlace 35 = .ok (.invokevirtual 75, 3) := by decide +kernel
theorem dX3_bestPlace_38 : decode cX3_bestPlace 38 = .ok (.istore 6, 2) := by decide +kernel
theorem dX3_bestPlace_40 : decode cX3_bestPlace 40 = .ok (.iload 6, 2) := by decide +kernel
theorem dX3_bestPlace_42 : decode cX3_bestPlace 42 = .ok (.aload_n 0, 1) := by decide +kernel
theorem dX3_bestPlace_43 : decode cX3_bestPlace 43 = .ok (.getfield 58, 3) := by decide +kernel
theorem dX3_bestPlace_46 : decode cX3_bestPlace 46 = .ok (.if_icmp .le 13, 3) := by decide +kernel
theorem dX3_bestPlace_49 : decode cX3_bestPlace 49 = .ok (.iload 5, 2) := by decide +kernel
theorem dX3_bestPlace_51 : decode cX3_bestPlace 51 = .ok (.istore 4, 2) := by decide +kernel
theorem dX3_bestPlace_53 : decode cX3_bestPlace 53 = .ok (.aload_n 0, 1) := by decide +kernel
theorem dX3_bestPlace_54 : decode cX3_bestPlace 54 = .ok (.iload 6, 2) := by decide +kernel
theorem dX3_bestPlace_56 : decode cX3_bestPlace 56 = .ok (.putfield 58, 3) := by decide +kernel
theorem dX3_bestPlace_59 : decode cX3_bestPlace 59 = .ok (.iinc 5 1, 3) := by decide +kernel
theorem dX3_bestPlace_62 : decode cX3_bestPlace 62 = .ok (.goto (-40), 3) := by decide +kernel
theorem dX3_bestPlace_65 : decode cX3_bestPlace 65 = .ok (.iload 4, 2) := by decide +kernel
theorem dX3_bestPlace_67 : decode cX3_bestPlace 67 = .ok (.ireturn, 1) := by decide +kernel
theorem dX3_worthAt_0 : decode cX3_worthAt 0 = .ok (.iload 4, 2) := by decide +kernel
theorem dX3_worthAt_2 : decode cX3_worthAt 2 = .ok (.istore 5, 2) := by decide +kernel
theorem dX3_worthAt_4 : decode cX3_worthAt 4 = .ok (.iconst 0, 1) := by decide +kernel
theorem dX3_worthAt_5 : decode cX3_worthAt 5 = .ok (.istore 6, 2) := by decide +kernel
theorem dX3_worthAt_7 : decode cX3_worthAt 7 = .ok (.iconst 0, 1) := by decide +kernel
theorem dX3_worthAt_8 : decode cX3_worthAt 8 = .ok (.istore 7, 2) := by decide +kernel
theorem dX3_worthAt_10 : decode cX3_worthAt 10 = .ok (.iload 7, 2) := by decide +kernel
theorem dX3_worthAt_12 : decode cX3_worthAt 12 = .ok (.aload_n 1, 1) := by decide +kernel
theorem dX3_worthAt_13 : decode cX3_worthAt 13 = .ok (.getfield 34, 3) := by decide +kernel
theorem dX3_worthAt_16 : decode cX3_worthAt 16 = .ok (.if_icmp .ge 58, 3) := by decide +kernel
theorem dX3_worthAt_19 : decode cX3_worthAt 19 = .ok (.iload 5, 2) := by decide +kernel
theorem dX3_worthAt_21 : decode cX3_worthAt 21 = .ok (.ifCond .le 53, 3) := by decide +kernel
theorem dX3_worthAt_24 : decode cX3_worthAt 24 = .ok (.aload_n 0, 1) := by decide +kernel
theorem dX3_worthAt_25 : decode cX3_worthAt 25 = .ok (.getfield 31, 3) := by decide +kernel
theorem dX3_worthAt_28 : decode cX3_worthAt 28 = .ok (.iload 7, 2) := by decide +kernel
theorem dX3_worthAt_30 : decode cX3_worthAt 30 = .ok (.iaload, 1) := by decide +kernel
theorem dX3_worthAt_31 : decode cX3_worthAt 31 = .ok (.istore 8, 2) := by decide +kernel
theorem dX3_worthAt_33 : decode cX3_worthAt 33 = .ok (.aload_n 1, 1) := by decide +kernel
theorem dX3_worthAt_34 : decode cX3_worthAt 34 = .ok (.iload 8, 2) := by decide +kernel
theorem dX3_worthAt_36 : decode cX3_worthAt 36 = .ok (.invokevirtual 41, 3) := by decide +kernel
theorem dX3_worthAt_39 : decode cX3_worthAt 39 = .ok (.ifCond .eq 29, 3) := by decide +kernel
theorem dX3_worthAt_42 : decode cX3_worthAt 42 = .ok (.aload_n 1, 1) := by decide +kernel
theorem dX3_worthAt_43 : decode cX3_worthAt 43 = .ok (.iload 8, 2) := by decide +kernel
theorem dX3_worthAt_45 : decode cX3_worthAt 45 = .ok (.iload_n 2, 1) := by decide +kernel
theorem dX3_worthAt_46 : decode cX3_worthAt 46 = .ok (.iload_n 3, 1) := by decide +kernel
theorem dX3_worthAt_47 : decode cX3_worthAt 47 = .ok (.invokevirtual 79, 3) := by decide +kernel
theorem dX3_worthAt_50 : decode cX3_worthAt 50 = .ok (.ifCond .eq 18, 3) := by decide +kernel
theorem dX3_worthAt_53 : decode cX3_worthAt 53 = .ok (.iload 6, 2) := by decide +kernel
theorem dX3_worthAt_55 : decode cX3_worthAt 55 = .ok (.aload_n 0, 1) := by decide +kernel
theorem dX3_worthAt_56 : decode cX3_worthAt 56 = .ok (.getfield 15, 3) := by decide +kernel
theorem dX3_worthAt_59 : decode cX3_worthAt 59 = .ok (.iload 8, 2) := by decide +kernel
theorem dX3_worthAt_61 : decode cX3_worthAt 61 = .ok (.iaload, 1) := by decide +kernel
theorem dX3_worthAt_62 : decode cX3_worthAt 62 = .ok (.iadd, 1) := by decide +kernel
theorem dX3_worthAt_63 : decode cX3_worthAt 63 = .ok (.istore 6, 2) := by decide +kernel
theorem dX3_worthAt_65 : decode cX3_worthAt 65 = .ok (.iinc 5 (-1), 3) := by decide +kernel
theorem dX3_worthAt_68 : decode cX3_worthAt 68 = .ok (.iinc 7 1, 3) := by decide +kernel
theorem dX3_worthAt_71 : decode cX3_worthAt 71 = .ok (.goto (-61), 3) := by decide +kernel
theorem dX3_worthAt_74 : decode cX3_worthAt 74 = .ok (.iload 6, 2) := by decide +kernel
theorem dX3_worthAt_76 : decode cX3_worthAt 76 = .ok (.ireturn, 1) := by decide +kernel
theorem dX3_sortByPostage_0 : decode cX3_sortByPostage 0 = .ok (.iconst 0, 1) := by decide +kernel
theorem dX3_sortByPostage_1 : decode cX3_sortByPostage 1 = .ok (.istore_n 2, 1) := by decide +kernel
theorem dX3_sortByPostage_2 : decode cX3_sortByPostage 2 = .ok (.iload_n 2, 1) := by decide +kernel
theorem dX3_sortByPostage_3 : decode cX3_sortByPostage 3 = .ok (.aload_n 1, 1) := by decide +kernel
theorem dX3_sortByPostage_4 : decode cX3_sortByPostage 4 = .ok (.getfield 34, 3) := by decide +kernel
theorem dX3_sortByPostage_7 : decode cX3_sortByPostage 7 = .ok (.if_icmp .ge 75, 3) := by decide +kernel
theorem dX3_sortByPostage_10 : decode cX3_sortByPostage 10 = .ok (.aload_n 0, 1) := by decide +kernel
theorem dX3_sortByPostage_11 : decode cX3_sortByPostage 11 = .ok (.getfield 15, 3) := by decide +kernel
theorem dX3_sortByPostage_14 : decode cX3_sortByPostage 14 = .ok (.iload_n 2, 1) := by decide +kernel
theorem dX3_sortByPostage_15 : decode cX3_sortByPostage 15 = .ok (.aload_n 1, 1) := by decide +kernel
theorem dX3_sortByPostage_16 : decode cX3_sortByPostage 16 = .ok (.iload_n 2, 1) := by decide +kernel
theorem dX3_sortByPostage_17 : decode cX3_sortByPostage 17 = .ok (.invokevirtual 49, 3) := by decide +kernel
theorem dX3_sortByPostage_20 : decode cX3_sortByPostage 20 = .ok (.iastore, 1) := by decide +kernel
theorem dX3_sortByPostage_21 : decode cX3_sortByPostage 21 = .ok (.iload_n 2, 1) := by decide +kernel
theorem dX3_sortByPostage_22 : decode cX3_sortByPostage 22 = .ok (.istore_n 3, 1) := by decide +kernel
theorem dX3_sortByPostage_23 : decode cX3_sortByPostage 23 = .ok (.iload_n 3, 1) := by decide +kernel
theorem dX3_sortByPostage_24 : decode cX3_sortByPostage 24 = .ok (.ifCond .le 45, 3) := by decide +kernel
theorem dX3_sortByPostage_27 : decode cX3_sortByPostage 27 = .ok (.aload_n 0, 1) := by decide +kernel
theorem dX3_sortByPostage_28 : decode cX3_sortByPostage 28 = .ok (.getfield 15, 3) := by decide +kernel
theorem dX3_sortByPostage_31 : decode cX3_sortByPostage 31 = .ok (.aload_n 0, 1) := by decide +kernel
theorem dX3_sortByPostage_32 : decode cX3_sortByPostage 32 = .ok (.getfield 31, 3) := by decide +kernel
theorem dX3_sortByPostage_35 : decode cX3_sortByPostage 35 = .ok (.iload_n 3, 1) := by decide +kernel
theorem dX3_sortByPostage_36 : decode cX3_sortByPostage 36 = .ok (.iconst 1, 1) := by decide +kernel
theorem dX3_sortByPostage_37 : decode cX3_sortByPostage 37 = .ok (.isub, 1) := by decide +kernel
theorem dX3_sortByPostage_38 : decode cX3_sortByPostage 38 = .ok (.iaload, 1) := by decide +kernel
theorem dX3_sortByPostage_39 : decode cX3_sortByPostage 39 = .ok (.iaload, 1) := by decide +kernel
theorem dX3_sortByPostage_40 : decode cX3_sortByPostage 40 = .ok (.aload_n 0, 1) := by decide +kernel
theorem dX3_sortByPostage_41 : decode cX3_sortByPostage 41 = .ok (.getfield 15, 3) := by decide +kernel
theorem dX3_sortByPostage_44 : decode cX3_sortByPostage 44 = .ok (.iload_n 2, 1) := by decide +kernel
theorem dX3_sortByPostage_45 : decode cX3_sortByPostage 45 = .ok (.iaload, 1) := by decide +kernel
theorem dX3_sortByPostage_46 : decode cX3_sortByPostage 46 = .ok (.if_icmp .ge 23, 3) := by decide +kernel
theorem dX3_sortByPostage_49 : decode cX3_sortByPostage 49 = .ok (.aload_n 0, 1) := by decide +kernel
theorem dX3_sortByPostage_50 : decode cX3_sortByPostage 50 = .ok (.getfield 31, 3) := by decide +kernel
theorem dX3_sortByPostage_53 : decode cX3_sortByPostage 53 = .ok (.iload_n 3, 1) := by decide +kernel
theorem dX3_sortByPostage_54 : decode cX3_sortByPostage 54 = .ok (.aload_n 0, 1) := by decide +kernel
theorem dX3_sortByPostage_55 : decode cX3_sortByPostage 55 = .ok (.getfield 31, 3) := by decide +kernel
theorem dX3_sortByPostage_58 : decode cX3_sortByPostage 58 = .ok (.iload_n 3, 1) := by decide +kernel
theorem dX3_sortByPostage_59 : decode cX3_sortByPostage 59 = .ok (.iconst 1, 1) := by decide +kernel
theorem dX3_sortByPostage_60 : decode cX3_sortByPostage 60 = .ok (.isub, 1) := by decide +kernel
theorem dX3_sortByPostage_61 : decode cX3_sortByPostage 61 = .ok (.iaload, 1) := by decide +kernel
theorem dX3_sortByPostage_62 : decode cX3_sortByPostage 62 = .ok (.iastore, 1) := by decide +kernel
theorem dX3_sortByPostage_63 : decode cX3_sortByPostage 63 = .ok (.iinc 3 (-1), 3) := by decide +kernel
theorem dX3_sortByPostage_66 : decode cX3_sortByPostage 66 = .ok (.goto (-43), 3) := by decide +kernel
theorem dX3_sortByPostage_69 : decode cX3_sortByPostage 69 = .ok (.aload_n 0, 1) := by decide +kernel
theorem dX3_sortByPostage_70 : decode cX3_sortByPostage 70 = .ok (.getfield 31, 3) := by decide +kernel
theorem dX3_sortByPostage_73 : decode cX3_sortByPostage 73 = .ok (.iload_n 3, 1) := by decide +kernel
theorem dX3_sortByPostage_74 : decode cX3_sortByPostage 74 = .ok (.iload_n 2, 1) := by decide +kernel
theorem dX3_sortByPostage_75 : decode cX3_sortByPostage 75 = .ok (.iastore, 1) := by decide +kernel
theorem dX3_sortByPostage_76 : decode cX3_sortByPostage 76 = .ok (.iinc 2 1, 3) := by decide +kernel
theorem dX3_sortByPostage_79 : decode cX3_sortByPostage 79 = .ok (.goto (-77), 3) := by decide +kernel
theorem dX3_sortByPostage_82 : decode cX3_sortByPostage 82 = .ok (.return_, 1) := by decide +kernel
theorem dX3_pairsThatRest_0 : decode cX3_pairsThatRest 0 = .ok (.iconst 0, 1) := by decide +kernel
theorem dX3_pairsThatRest_1 : decode cX3_pairsThatRest 1 = .ok (.istore 4, 2) := by decide +kernel
theorem dX3_pairsThatRest_3 : decode cX3_pairsThatRest 3 = .ok (.iconst 0, 1) := by decide +kernel
theorem dX3_pairsThatRest_4 : decode cX3_pairsThatRest 4 = .ok (.istore 5, 2) := by decide +kernel
theorem dX3_pairsThatRest_6 : decode cX3_pairsThatRest 6 = .ok (.iload 5, 2) := by decide +kernel
theorem dX3_pairsThatRest_8 : decode cX3_pairsThatRest 8 = .ok (.iconst 4, 1) := by decide +kernel
theorem dX3_pairsThatRest_9 : decode cX3_pairsThatRest 9 = .ok (.if_icmp .ge 148, 3) := by decide +kernel
theorem dX3_pairsThatRest_12 : decode cX3_pairsThatRest 12 = .ok (.iload_n 1, 1) := by decide +kernel
theorem dX3_pairsThatRest_13 : decode cX3_pairsThatRest 13 = .ok (.ifCond .eq 14, 3) := by decide +kernel
theorem dX3_pairsThatRest_16 : decode cX3_pairsThatRest 16 = .ok (.iload 5, 2) := by decide +kernel
theorem dX3_pairsThatRest_18 : decode cX3_pairsThatRest 18 = .ok (.iconst 1, 1) := by decide +kernel
theorem dX3_pairsThatRest_19 : decode cX3_pairsThatRest 19 = .ok (.iand, 1) := by decide +kernel
theorem dX3_pairsThatRest_20 : decode cX3_pairsThatRest 20 = .ok (.ifCond .eq 7, 3) := by decide +kernel
theorem dX3_pairsThatRest_23 : decode cX3_pairsThatRest 23 = .ok (.iconst 1, 1) := by decide +kernel
theorem dX3_pairsThatRest_24 : decode cX3_pairsThatRest 24 = .ok (.goto 4, 3) := by decide +kernel
theorem dX3_pairsThatRest_27 : decode cX3_pairsThatRest 27 = .ok (.iconst 0, 1) := by decide +kernel
theorem dX3_pairsThatRest_28 : decode cX3_pairsThatRest 28 = .ok (.istore 6, 2) := by decide +kernel
theorem dX3_pairsThatRest_30 : decode cX3_pairsThatRest 30 = .ok (.iload_n 2, 1) := by decide +kernel
theorem dX3_pairsThatRest_31 : decode cX3_pairsThatRest 31 = .ok (.ifCond .eq 14, 3) := by decide +kernel
theorem dX3_pairsThatRest_34 : decode cX3_pairsThatRest 34 = .ok (.iload 5, 2) := by decide +kernel
theorem dX3_pairsThatRest_36 : decode cX3_pairsThatRest 36 = .ok (.iconst 2, 1) := by decide +kernel
theorem dX3_pairsThatRest_37 : decode cX3_pairsThatRest 37 = .ok (.iand, 1) := by decide +kernel
theorem dX3_pairsThatRest_38 : decode cX3_pairsThatRest 38 = .ok (.ifCond .eq 7, 3) := by decide +kernel
theorem dX3_pairsThatRest_41 : decode cX3_pairsThatRest 41 = .ok (.iconst 1, 1) := by decide +kernel
theorem dX3_pairsThatRest_42 : decode cX3_pairsThatRest 42 = .ok (.goto 4, 3) := by decide +kernel
theorem dX3_pairsThatRest_45 : decode cX3_pairsThatRest 45 = .ok (.iconst 0, 1) := by decide +kernel
theorem dX3_pairsThatRest_46 : decode cX3_pairsThatRest 46 = .ok (.istore 7, 2) := by decide +kernel
theorem dX3_pairsThatRest_48 : decode cX3_pairsThatRest 48 = .ok (.iload_n 1, 1) := by decide +kernel
theorem dX3_pairsThatRest_49 : decode cX3_pairsThatRest 49 = .ok (.ifCond .eq 12, 3) := by decide +kernel
theorem dX3_pairsThatRest_52 : decode cX3_pairsThatRest 52 = .ok (.iload 6, 2) := by decide +kernel
theorem dX3_pairsThatRest_54 : decode cX3_pairsThatRest 54 = .ok (.ifCond .ne 7, 3) := by decide +kernel
theorem dX3_pairsThatRest_57 : decode cX3_pairsThatRest 57 = .ok (.iconst 1, 1) := by decide +kernel
theorem dX3_pairsThatRest_58 : decode cX3_pairsThatRest 58 = .ok (.goto 4, 3) := by decide +kernel
theorem dX3_pairsThatRest_61 : decode cX3_pairsThatRest 61 = .ok (.iconst 0, 1) := by decide +kernel
theorem dX3_pairsThatRest_62 : decode cX3_pairsThatRest 62 = .ok (.istore 8, 2) := by decide +kernel
theorem dX3_pairsThatRest_64 : decode cX3_pairsThatRest 64 = .ok (.iload_n 2, 1) := by decide +kernel
theorem dX3_pairsThatRest_65 : decode cX3_pairsThatRest 65 = .ok (.ifCond .eq 12, 3) := by decide +kernel
theorem dX3_pairsThatRest_68 : decode cX3_pairsThatRest 68 = .ok (.iload 7, 2) := by decide +kernel
theorem dX3_pairsThatRest_70 : decode cX3_pairsThatRest 70 = .ok (.ifCond .ne 7, 3) := by decide +kernel
theorem dX3_pairsThatRest_73 : decode cX3_pairsThatRest 73 = .ok (.iconst 1, 1) := by decide +kernel
theorem dX3_pairsThatRest_74 : decode cX3_pairsThatRest 74 = .ok (.goto 4, 3) := by decide +kernel
theorem dX3_pairsThatRest_77 : decode cX3_pairsThatRest 77 = .ok (.iconst 0, 1) := by decide +kernel
theorem dX3_pairsThatRest_78 : decode cX3_pairsThatRest 78 = .ok (.istore 9, 2) := by decide +kernel
theorem dX3_pairsThatRest_80 : decode cX3_pairsThatRest 80 = .ok (.iload 8, 2) := by decide +kernel
theorem dX3_pairsThatRest_82 : decode cX3_pairsThatRest 82 = .ok (.iload 7, 2) := by decide +kernel
theorem dX3_pairsThatRest_84 : decode cX3_pairsThatRest 84 = .ok (.iload_n 3, 1) := by decide +kernel
theorem dX3_pairsThatRest_85 : decode cX3_pairsThatRest 85 = .ok (.invokestatic 83, 3) := by decide +kernel
theorem dX3_pairsThatRest_88 : decode cX3_pairsThatRest 88 = .ok (.iload 6, 2) := by decide +kernel
theorem dX3_pairsThatRest_90 : decode cX3_pairsThatRest 90 = .ok (.iload 7, 2) := by decide +kernel
theorem dX3_pairsThatRest_92 : decode cX3_pairsThatRest 92 = .ok (.iload_n 3, 1) := by decide +kernel
theorem dX3_pairsThatRest_93 : decode cX3_pairsThatRest 93 = .ok (.invokestatic 83, 3) := by decide +kernel
theorem dX3_pairsThatRest_96 : decode cX3_pairsThatRest 96 = .ok (.if_icmp .le 7, 3) := by decide +kernel
theorem dX3_pairsThatRest_99 : decode cX3_pairsThatRest 99 = .ok (.iconst 1, 1) := by decide +kernel
theorem dX3_pairsThatRest_100 : decode cX3_pairsThatRest 100 = .ok (.goto 4, 3) := by decide +kernel
theorem dX3_pairsThatRest_103 : decode cX3_pairsThatRest 103 = .ok (.iconst 0, 1) := by decide +kernel
theorem dX3_pairsThatRest_104 : decode cX3_pairsThatRest 104 = .ok (.istore 10, 2) := by decide +kernel
theorem dX3_pairsThatRest_106 : decode cX3_pairsThatRest 106 = .ok (.iload 9, 2) := by decide +kernel
theorem dX3_pairsThatRest_108 : decode cX3_pairsThatRest 108 = .ok (.iload 6, 2) := by decide +kernel
theorem dX3_pairsThatRest_110 : decode cX3_pairsThatRest 110 = .ok (.iload_n 3, 1) := by decide +kernel
theorem dX3_pairsThatRest_111 : decode cX3_pairsThatRest 111 = .ok (.invokestatic 83, 3) := by decide +kernel
theorem dX3_pairsThatRest_114 : decode cX3_pairsThatRest 114 = .ok (.iload 7, 2) := by decide +kernel
theorem dX3_pairsThatRest_116 : decode cX3_pairsThatRest 116 = .ok (.iload 6, 2) := by decide +kernel
theorem dX3_pairsThatRest_118 : decode cX3_pairsThatRest 118 = .ok (.iload_n 3, 1) := by decide +kernel
theorem dX3_pairsThatRest_119 : decode cX3_pairsThatRest 119 = .ok (.invokestatic 83, 3) := by decide +kernel
theorem dX3_pairsThatRest_122 : decode cX3_pairsThatRest 122 = .ok (.if_icmp .le 7, 3) := by decide +kernel
theorem dX3_pairsThatRest_125 : decode cX3_pairsThatRest 125 = .ok (.iconst 1, 1) := by decide +kernel
theorem dX3_pairsThatRest_126 : decode cX3_pairsThatRest 126 = .ok (.goto 4, 3) := by decide +kernel
theorem dX3_pairsThatRest_129 : decode cX3_pairsThatRest 129 = .ok (.iconst 0, 1) := by decide +kernel
theorem dX3_pairsThatRest_130 : decode cX3_pairsThatRest 130 = .ok (.istore 11, 2) := by decide +kernel
theorem dX3_pairsThatRest_132 : decode cX3_pairsThatRest 132 = .ok (.iload 10, 2) := by decide +kernel
theorem dX3_pairsThatRest_134 : decode cX3_pairsThatRest 134 = .ok (.ifCond .ne 17, 3) := by decide +kernel
theorem dX3_pairsThatRest_137 : decode cX3_pairsThatRest 137 = .ok (.iload 11, 2) := by decide +kernel
theorem dX3_pairsThatRest_139 : decode cX3_pairsThatRest 139 = .ok (.ifCond .ne 12, 3) := by decide +kernel
theorem dX3_pairsThatRest_142 : decode cX3_pairsThatRest 142 = .ok (.iload 4, 2) := by decide +kernel
theorem dX3_pairsThatRest_144 : decode cX3_pairsThatRest 144 = .ok (.iconst 1, 1) := by decide +kernel
theorem dX3_pairsThatRest_145 : decode cX3_pairsThatRest 145 = .ok (.iload 5, 2) := by decide +kernel
theorem dX3_pairsThatRest_147 : decode cX3_pairsThatRest 147 = .ok (.ishl, 1) := by decide +kernel
theorem dX3_pairsThatRest_148 : decode cX3_pairsThatRest 148 = .ok (.ior, 1) := by decide +kernel
theorem dX3_pairsThatRest_149 : decode cX3_pairsThatRest 149 = .ok (.istore 4, 2) := by decide +kernel
theorem dX3_pairsThatRest_151 : decode cX3_pairsThatRest 151 = .ok (.iinc 5 1, 3) := by decide +kernel
theorem dX3_pairsThatRest_154 : decode cX3_pairsThatRest 154 = .ok (.goto (-148), 3) := by decide +kernel
theorem dX3_pairsThatRest_157 : decode cX3_pairsThatRest 157 = .ok (.iload 4, 2) := by decide +kernel
theorem dX3_pairsThatRest_159 : decode cX3_pairsThatRest 159 = .ok (.ireturn, 1) := by decide +kernel
theorem dX3_gain_0 : decode cX3_gain 0 = .ok (.iload_n 0, 1) := by decide +kernel
theorem dX3_gain_1 : decode cX3_gain 1 = .ok (.ifCond .ne 5, 3) := by decide +kernel
theorem dX3_gain_4 : decode cX3_gain 4 = .ok (.iconst 0, 1) := by decide +kernel
theorem dX3_gain_5 : decode cX3_gain 5 = .ok (.ireturn, 1) := by decide +kernel
theorem dX3_gain_6 : decode cX3_gain 6 = .ok (.iload_n 1, 1) := by decide +kernel
theorem dX3_gain_7 : decode cX3_gain 7 = .ok (.ifCond .eq 11, 3) := by decide +kernel
theorem dX3_gain_10 : decode cX3_gain 10 = .ok (.iload_n 2, 1) := by decide +kernel
theorem dX3_gain_11 : decode cX3_gain 11 = .ok (.iconst 2, 1) := by decide +kernel
theorem dX3_gain_12 : decode cX3_gain 12 = .ok (.idiv, 1) := by decide +kernel
theorem dX3_gain_13 : decode cX3_gain 13 = .ok (.iconst 1, 1) := by decide +kernel
theorem dX3_gain_14 : decode cX3_gain 14 = .ok (.isub, 1) := by decide +kernel
theorem dX3_gain_15 : decode cX3_gain 15 = .ok (.goto 4, 3) := by decide +kernel
theorem dX3_gain_18 : decode cX3_gain 18 = .ok (.iload_n 2, 1) := by decide +kernel
theorem dX3_gain_19 : decode cX3_gain 19 = .ok (.ireturn, 1) := by decide +kernel
theorem dX4_init_0 : decode cX4_init 0 = .ok (.aload_n 0, 1) := by decide +kernel
theorem dX4_init_1 : decode cX4_init 1 = .ok (.invokespecial 3, 3) := by decide +kernel
theorem dX4_init_4 : decode cX4_init 4 = .ok (.aload_n 0, 1) := by decide +kernel
theorem dX4_init_5 : decode cX4_init 5 = .ok (.sipush 152, 3) := by decide +kernel
theorem dX4_init_8 : decode cX4_init 8 = .ok (.newarray .int, 2) := by decide +kernel
theorem dX4_init_10 : decode cX4_init 10 = .ok (.putfield 11, 3) := by decide +kernel
theorem dX4_init_13 : decode cX4_init 13 = .ok (.return_, 1) := by decide +kernel
theorem dX4_makeEmpty_0 : decode cX4_makeEmpty 0 = .ok (.aload_n 0, 1) := by decide +kernel
theorem dX4_makeEmpty_1 : decode cX4_makeEmpty 1 = .ok (.iconst 0, 1) := by decide +kernel
theorem dX4_makeEmpty_2 : decode cX4_makeEmpty 2 = .ok (.putfield 15, 3) := by decide +kernel
theorem dX4_makeEmpty_5 : decode cX4_makeEmpty 5 = .ok (.aload_n 0, 1) := by decide +kernel
theorem dX4_makeEmpty_6 : decode cX4_makeEmpty 6 = .ok (.iconst 0, 1) := by decide +kernel
theorem dX4_makeEmpty_7 : decode cX4_makeEmpty 7 = .ok (.putfield 19, 3) := by decide +kernel
theorem dX4_makeEmpty_10 : decode cX4_makeEmpty 10 = .ok (.return_, 1) := by decide +kernel
theorem dX4_takeOver_0 : decode cX4_takeOver 0 = .ok (.aload_n 1, 1) := by decide +kernel
theorem dX4_takeOver_1 : decode cX4_takeOver 1 = .ok (.getfield 11, 3) := by decide +kernel
theorem dX4_takeOver_4 : decode cX4_takeOver 4 = .ok (.iconst 0, 1) := by decide +kernel
theorem dX4_takeOver_5 : decode cX4_takeOver 5 = .ok (.aload_n 0, 1) := by decide +kernel
theorem dX4_takeOver_6 : decode cX4_takeOver 6 = .ok (.getfield 11, 3) := by decide +kernel
theorem dX4_takeOver_9 : decode cX4_takeOver 9 = .ok (.iconst 0, 1) := by decide +kernel
theorem dX4_takeOver_10 : decode cX4_takeOver 10 = .ok (.sipush 152, 3) := by decide +kernel
theorem dX4_takeOver_13 : decode cX4_takeOver 13 = .ok (.invokestatic 22, 3) := by decide +kernel
theorem dX4_takeOver_16 : decode cX4_takeOver 16 = .ok (.aload_n 0, 1) := by decide +kernel
theorem dX4_takeOver_17 : decode cX4_takeOver 17 = .ok (.aload_n 1, 1) := by decide +kernel
theorem dX4_takeOver_18 : decode cX4_takeOver 18 = .ok (.getfield 15, 3) := by decide +kernel
theorem dX4_takeOver_21 : decode cX4_takeOver 21 = .ok (.putfield 15, 3) := by decide +kernel
theorem dX4_takeOver_24 : decode cX4_takeOver 24 = .ok (.aload_n 0, 1) := by decide +kernel
theorem dX4_takeOver_25 : decode cX4_takeOver 25 = .ok (.aload_n 1, 1) := by decide +kernel
theorem dX4_takeOver_26 : decode cX4_takeOver 26 = .ok (.getfield 19, 3) := by decide +kernel
theorem dX4_takeOver_29 : decode cX4_takeOver 29 = .ok (.putfield 19, 3) := by decide +kernel
theorem dX4_takeOver_32 : decode cX4_takeOver 32 = .ok (.return_, 1) := by decide +kernel
theorem dX4_keep_0 : decode cX4_keep 0 = .ok (.aload_n 0, 1) := by decide +kernel
theorem dX4_keep_1 : decode cX4_keep 1 = .ok (.getfield 19, 3) := by decide +kernel
theorem dX4_keep_4 : decode cX4_keep 4 = .ok (.bipush 8, 2) := by decide +kernel
theorem dX4_keep_6 : decode cX4_keep 6 = .ok (.if_icmp .lt 22, 3) := by decide +kernel
theorem dX4_keep_9 : decode cX4_keep 9 = .ok (.aload_n 0, 1) := by decide +kernel
theorem dX4_keep_10 : decode cX4_keep 10 = .ok (.aload_n 0, 1) := by decide +kernel
theorem dX4_keep_11 : decode cX4_keep 11 = .ok (.getfield 15, 3) := by decide +kernel
theorem dX4_keep_14 : decode cX4_keep 14 = .ok (.iconst 1, 1) := by decide +kernel
theorem dX4_keep_15 : decode cX4_keep 15 = .ok (.iadd, 1) := by decide +kernel
theorem dX4_keep_16 : decode cX4_keep 16 = .ok (.bipush 8, 2) := by decide +kernel
theorem dX4_keep_18 : decode cX4_keep 18 = .ok (.irem, 1) := by decide +kernel
theorem dX4_keep_19 : decode cX4_keep 19 = .ok (.putfield 15, 3) := by decide +kernel
theorem dX4_keep_22 : decode cX4_keep 22 = .ok (.aload_n 0, 1) := by decide +kernel
theorem dX4_keep_23 : decode cX4_keep 23 = .ok (.bipush 7, 2) := by decide +kernel
theorem dX4_keep_25 : decode cX4_keep 25 = .ok (.putfield 19, 3) := by decide +kernel
theorem dX4_keep_28 : decode cX4_keep 28 = .ok (.aload_n 0, 1) := by decide +kernel
theorem dX4_keep_29 : decode cX4_keep 29 = .ok (.getfield 15, 3) := by decide +kernel
theorem dX4_keep_32 : decode cX4_keep 32 = .ok (.aload_n 0, 1) := by decide +kernel
theorem dX4_keep_33 : decode cX4_keep 33 = .ok (.getfield 19, 3) := by decide +kernel
theorem dX4_keep_36 : decode cX4_keep 36 = .ok (.iadd, 1) := by decide +kernel
theorem dX4_keep_37 : decode cX4_keep 37 = .ok (.bipush 8, 2) := by decide +kernel
theorem dX4_keep_39 : decode cX4_keep 39 = .ok (.irem, 1) := by decide +kernel
theorem dX4_keep_40 : decode cX4_keep 40 = .ok (.bipush 19, 2) := by decide +kernel
theorem dX4_keep_42 : decode cX4_keep 42 = .ok (.imul, 1) := by decide +kernel
theorem dX4_keep_43 : decode cX4_keep 43 = .ok (.istore_n 2, 1) := by decide +kernel
theorem dX4_keep_44 : decode cX4_keep 44 = .ok (.aload_n 1, 1) := by decide +kernel
theorem dX4_keep_45 : decode cX4_keep 45 = .ok (.getfield 28, 3) := by decide +kernel
theorem dX4_keep_48 : decode cX4_keep 48 = .ok (.iconst 0, 1) := by decide +kernel
theorem dX4_keep_49 : decode cX4_keep 49 = .ok (.aload_n 0, 1) := by decide +kernel
theorem dX4_keep_50 : decode cX4_keep 50 = .ok (.getfield 11, 3) := by decide +kernel
theorem dX4_keep_53 : decode cX4_keep 53 = .ok (.iload_n 2, 1) := by decide +kernel
theorem dX4_keep_54 : decode cX4_keep 54 = .ok (.iconst 5, 1) := by decide +kernel
theorem dX4_keep_55 : decode cX4_keep 55 = .ok (.invokestatic 22, 3) := by decide +kernel
theorem dX4_keep_58 : decode cX4_keep 58 = .ok (.aload_n 1, 1) := by decide +kernel
theorem dX4_keep_59 : decode cX4_keep 59 = .ok (.getfield 33, 3) := by decide +kernel
theorem dX4_keep_62 : decode cX4_keep 62 = .ok (.iconst 0, 1) := by decide +kernel
theorem dX4_keep_63 : decode cX4_keep 63 = .ok (.aload_n 0, 1) := by decide +kernel
theorem dX4_keep_64 : decode cX4_keep 64 = .ok (.getfield 11, 3) := by decide +kernel
theorem dX4_keep_67 : decode cX4_keep 67 = .ok (.iload_n 2, 1) := by decide +kernel
theorem dX4_keep_68 : decode cX4_keep 68 = .ok (.iconst 5, 1) := by decide +kernel
theorem dX4_keep_69 : decode cX4_keep 69 = .ok (.iadd, 1) := by decide +kernel
theorem dX4_keep_70 : decode cX4_keep 70 = .ok (.iconst 5, 1) := by decide +kernel
theorem dX4_keep_71 : decode cX4_keep 71 = .ok (.invokestatic 22, 3) := by decide +kernel
theorem dX4_keep_74 : decode cX4_keep 74 = .ok (.aload_n 1, 1) := by decide +kernel
theorem dX4_keep_75 : decode cX4_keep 75 = .ok (.getfield 36, 3) := by decide +kernel
theorem dX4_keep_78 : decode cX4_keep 78 = .ok (.iconst 0, 1) := by decide +kernel
theorem dX4_keep_79 : decode cX4_keep 79 = .ok (.aload_n 0, 1) := by decide +kernel
theorem dX4_keep_80 : decode cX4_keep 80 = .ok (.getfield 11, 3) := by decide +kernel
theorem dX4_keep_83 : decode cX4_keep 83 = .ok (.iload_n 2, 1) := by decide +kernel
theorem dX4_keep_84 : decode cX4_keep 84 = .ok (.bipush 10, 2) := by decide +kernel
theorem dX4_keep_86 : decode cX4_keep 86 = .ok (.iadd, 1) := by decide +kernel
theorem dX4_keep_87 : decode cX4_keep 87 = .ok (.bipush 6, 2) := by decide +kernel
theorem dX4_keep_89 : decode cX4_keep 89 = .ok (.invokestatic 22, 3) := by decide +kernel
theorem dX4_keep_92 : decode cX4_keep 92 = .ok (.iload_n 2, 1) := by decide +kernel
theorem dX4_keep_93 : decode cX4_keep 93 = .ok (.bipush 10, 2) := by decide +kernel
theorem dX4_keep_95 : decode cX4_keep 95 = .ok (.iadd, 1) := by decide +kernel
theorem dX4_keep_96 : decode cX4_keep 96 = .ok (.bipush 6, 2) := by decide +kernel
theorem dX4_keep_98 : decode cX4_keep 98 = .ok (.iadd, 1) := by decide +kernel
theorem dX4_keep_99 : decode cX4_keep 99 = .ok (.istore_n 3, 1) := by decide +kernel
theorem dX4_keep_100 : decode cX4_keep 100 = .ok (.aload_n 0, 1) := by decide +kernel
theorem dX4_keep_101 : decode cX4_keep 101 = .ok (.getfield 11, 3) := by decide +kernel
theorem dX4_keep_104 : decode cX4_keep 104 = .ok (.iload_n 3, 1) := by decide +kernel
theorem dX4_keep_105 : decode cX4_keep 105 = .ok (.aload_n 1, 1) := by decide +kernel
theorem dX4_keep_106 : decode cX4_keep 106 = .ok (.getfield 39, 3) := by decide +kernel
theorem dX4_keep_109 : decode cX4_keep 109 = .ok (.iastore, 1) := by decide +kernel
theorem dX4_keep_110 : decode cX4_keep 110 = .ok (.aload_n 0, 1) := by decide +kernel
theorem dX4_keep_111 : decode cX4_keep 111 = .ok (.getfield 11, 3) := by decide +kernel
theorem dX4_keep_114 : decode cX4_keep 114 = .ok (.iload_n 3, 1) := by decide +kernel
theorem dX4_keep_115 : decode cX4_keep 115 = .ok (.iconst 1, 1) := by decide +kernel
theorem dX4_keep_116 : decode cX4_keep 116 = .ok (.iadd, 1) := by decide +kernel
theorem dX4_keep_117 : decode cX4_keep 117 = .ok (.aload_n 1, 1) := by decide +kernel
theorem dX4_keep_118 : decode cX4_keep 118 = .ok (.getfield 42, 3) := by decide +kernel
theorem dX4_keep_121 : decode cX4_keep 121 = .ok (.iastore, 1) := by decide +kernel
theorem dX4_keep_122 : decode cX4_keep 122 = .ok (.aload_n 0, 1) := by decide +kernel
theorem dX4_keep_123 : decode cX4_keep 123 = .ok (.getfield 11, 3) := by decide +kernel
theorem dX4_keep_126 : decode cX4_keep 126 = .ok (.iload_n 3, 1) := by decide +kernel
theorem dX4_keep_127 : decode cX4_keep 127 = .ok (.iconst 2, 1) := by decide +kernel
theorem dX4_keep_128 : decode cX4_keep 128 = .ok (.iadd, 1) := by decide +kernel
theorem dX4_keep_129 : decode cX4_keep 129 = .ok (.aload_n 1, 1) := by decide +kernel
theorem dX4_keep_130 : decode cX4_keep 130 = .ok (.getfield 45, 3) := by decide +kernel
theorem dX4_keep_133 : decode cX4_keep 133 = .ok (.iastore, 1) := by decide +kernel
theorem dX4_keep_134 : decode cX4_keep 134 = .ok (.aload_n 0, 1) := by decide +kernel
theorem dX4_keep_135 : decode cX4_keep 135 = .ok (.dup, 1) := by decide +kernel
theorem dX4_keep_136 : decode cX4_keep 136 = .ok (.getfield 19, 3) := by decide +kernel
theorem dX4_keep_139 : decode cX4_keep 139 = .ok (.iconst 1, 1) := by decide +kernel
theorem dX4_keep_140 : decode cX4_keep 140 = .ok (.iadd, 1) := by decide +kernel
theorem dX4_keep_141 : decode cX4_keep 141 = .ok (.putfield 19, 3) := by decide +kernel
theorem dX4_keep_144 : decode cX4_keep 144 = .ok (.return_, 1) := by decide +kernel
theorem dX4_giveBack_0 : decode cX4_giveBack 0 = .ok (.aload_n 0, 1) := by decide +kernel
theorem dX4_giveBack_1 : decode cX4_giveBack 1 = .ok (.getfield 19, 3) := by decide +kernel
theorem dX4_giveBack_4 : decode cX4_giveBack 4 = .ok (.ifCond .gt 5, 3) := by decide +kernel
theorem dX4_giveBack_7 : decode cX4_giveBack 7 = .ok (.iconst 0, 1) := by decide +kernel
theorem dX4_giveBack_8 : decode cX4_giveBack 8 = .ok (.ireturn, 1) := by decide +kernel
theorem dX4_giveBack_9 : decode cX4_giveBack 9 = .ok (.aload_n 0, 1) := by decide +kernel
theorem dX4_giveBack_10 : decode cX4_giveBack 10 = .ok (.dup, 1) := by decide +kernel
theorem dX4_giveBack_11 : decode cX4_giveBack 11 = .ok (.getfield 19, 3) := by decide +kernel
theorem dX4_giveBack_14 : decode cX4_giveBack 14 = .ok (.iconst 1, 1) := by decide +kernel
theorem dX4_giveBack_15 : decode cX4_giveBack 15 = .ok (.isub, 1) := by decide +kernel
theorem dX4_giveBack_16 : decode cX4_giveBack 16 = .ok (.putfield 19, 3) := by decide +kernel
theorem dX4_giveBack_19 : decode cX4_giveBack 19 = .ok (.aload_n 0, 1) := by decide +kernel
theorem dX4_giveBack_20 : decode cX4_giveBack 20 = .ok (.getfield 15, 3) := by decide +kernel
theorem dX4_giveBack_23 : decode cX4_giveBack 23 = .ok (.aload_n 0, 1) := by decide +kernel
theorem dX4_giveBack_24 : decode cX4_giveBack 24 = .ok (.getfield 19, 3) := by decide +kernel
theorem dX4_giveBack_27 : decode cX4_giveBack 27 = .ok (.iadd, 1) := by decide +kernel
theorem dX4_giveBack_28 : decode cX4_giveBack 28 = .ok (.bipush 8, 2) := by decide +kernel
theorem dX4_giveBack_30 : decode cX4_giveBack 30 = .ok (.irem, 1) := by decide +kernel
theorem dX4_giveBack_31 : decode cX4_giveBack 31 = .ok (.bipush 19, 2) := by decide +kernel
theorem dX4_giveBack_33 : decode cX4_giveBack 33 = .ok (.imul, 1) := by decide +kernel
theorem dX4_giveBack_34 : decode cX4_giveBack 34 = .ok (.istore_n 2, 1) := by decide +kernel
theorem dX4_giveBack_35 : decode cX4_giveBack 35 = .ok (.aload_n 0, 1) := by decide +kernel
theorem dX4_giveBack_36 : decode cX4_giveBack 36 = .ok (.getfield 11, 3) := by decide +kernel
theorem dX4_giveBack_39 : decode cX4_giveBack 39 = .ok (.iload_n 2, 1) := by decide +kernel
theorem dX4_giveBack_40 : decode cX4_giveBack 40 = .ok (.aload_n 1, 1) := by decide +kernel
theorem dX4_giveBack_41 : decode cX4_giveBack 41 = .ok (.getfield 28, 3) := by decide +kernel
theorem dX4_giveBack_44 : decode cX4_giveBack 44 = .ok (.iconst 0, 1) := by decide +kernel
theorem dX4_giveBack_45 : decode cX4_giveBack 45 = .ok (.iconst 5, 1) := by decide +kernel
theorem dX4_giveBack_46 : decode cX4_giveBack 46 = .ok (.invokestatic 22, 3) := by decide +kernel
theorem dX4_giveBack_49 : decode cX4_giveBack 49 = .ok (.aload_n 0, 1) := by decide +kernel
theorem dX4_giveBack_50 : decode cX4_giveBack 50 = .ok (.getfield 11, 3) := by decide +kernel
theorem dX4_giveBack_53 : decode cX4_giveBack 53 = .ok (.iload_n 2, 1) := by decide +kernel
theorem dX4_giveBack_54 : decode cX4_giveBack 54 = .ok (.iconst 5, 1) := by decide +kernel
theorem dX4_giveBack_55 : decode cX4_giveBack 55 = .ok (.iadd, 1) := by decide +kernel
theorem dX4_giveBack_56 : decode cX4_giveBack 56 = .ok (.aload_n 1, 1) := by decide +kernel
theorem dX4_giveBack_57 : decode cX4_giveBack 57 = .ok (.getfield 33, 3) := by decide +kernel
theorem dX4_giveBack_60 : decode cX4_giveBack 60 = .ok (.iconst 0, 1) := by decide +kernel
theorem dX4_giveBack_61 : decode cX4_giveBack 61 = .ok (.iconst 5, 1) := by decide +kernel
theorem dX4_giveBack_62 : decode cX4_giveBack 62 = .ok (.invokestatic 22, 3) := by decide +kernel
theorem dX4_giveBack_65 : decode cX4_giveBack 65 = .ok (.aload_n 0, 1) := by decide +kernel
theorem dX4_giveBack_66 : decode cX4_giveBack 66 = .ok (.getfield 11, 3) := by decide +kernel
theorem dX4_giveBack_69 : decode cX4_giveBack 69 = .ok (.iload_n 2, 1) := by decide +kernel
theorem dX4_giveBack_70 : decode cX4_giveBack 70 = .ok (.bipush 10, 2) := by decide +kernel
theorem dX4_giveBack_72 : decode cX4_giveBack 72 = .ok (.iadd, 1) := by decide +kernel
theorem dX4_giveBack_73 : decode cX4_giveBack 73 = .ok (.aload_n 1, 1) := by decide +kernel
theorem dX4_giveBack_74 : decode cX4_giveBack 74 = .ok (.getfield 36, 3) := by decide +kernel
theorem dX4_giveBack_77 : decode cX4_giveBack 77 = .ok (.iconst 0, 1) := by decide +kernel
theorem dX4_giveBack_78 : decode cX4_giveBack 78 = .ok (.bipush 6, 2) := by decide +kernel
theorem dX4_giveBack_80 : decode cX4_giveBack 80 = .ok (.invokestatic 22, 3) := by decide +kernel
theorem dX4_giveBack_83 : decode cX4_giveBack 83 = .ok (.iload_n 2, 1) := by decide +kernel
theorem dX4_giveBack_84 : decode cX4_giveBack 84 = .ok (.bipush 10, 2) := by decide +kernel
theorem dX4_giveBack_86 : decode cX4_giveBack 86 = .ok (.iadd, 1) := by decide +kernel
theorem dX4_giveBack_87 : decode cX4_giveBack 87 = .ok (.bipush 6, 2) := by decide +kernel
theorem dX4_giveBack_89 : decode cX4_giveBack 89 = .ok (.iadd, 1) := by decide +kernel
theorem dX4_giveBack_90 : decode cX4_giveBack 90 = .ok (.istore_n 3, 1) := by decide +kernel
theorem dX4_giveBack_91 : decode cX4_giveBack 91 = .ok (.aload_n 1, 1) := by decide +kernel
theorem dX4_giveBack_92 : decode cX4_giveBack 92 = .ok (.aload_n 0, 1) := by decide +kernel
theorem dX4_giveBack_93 : decode cX4_giveBack 93 = .ok (.getfield 11, 3) := by decide +kernel
theorem dX4_giveBack_96 : decode cX4_giveBack 96 = .ok (.iload_n 3, 1) := by decide +kernel
theorem dX4_giveBack_97 : decode cX4_giveBack 97 = .ok (.iaload, 1) := by decide +kernel
theorem dX4_giveBack_98 : decode cX4_giveBack 98 = .ok (.putfield 39, 3) := by decide +kernel
theorem dX4_giveBack_101 : decode cX4_giveBack 101 = .ok (.aload_n 1, 1) := by decide +kernel
theorem dX4_giveBack_102 : decode cX4_giveBack 102 = .ok (.aload_n 0, 1) := by decide +kernel
theorem dX4_giveBack_103 : decode cX4_giveBack 103 = .ok (.getfield 11, 3) := by decide +kernel
theorem dX4_giveBack_106 : decode cX4_giveBack 106 = .ok (.iload_n 3, 1) := by decide +kernel
theorem dX4_giveBack_107 : decode cX4_giveBack 107 = .ok (.iconst 1, 1) := by decide +kernel
theorem dX4_giveBack_108 : decode cX4_giveBack 108 = .ok (.iadd, 1) := by decide +kernel
theorem dX4_giveBack_109 : decode cX4_giveBack 109 = .ok (.iaload, 1) := by decide +kernel
theorem dX4_giveBack_110 : decode cX4_giveBack 110 = .ok (.putfield 42, 3) := by decide +kernel
theorem dX4_giveBack_113 : decode cX4_giveBack 113 = .ok (.aload_n 1, 1) := by decide +kernel
theorem dX4_giveBack_114 : decode cX4_giveBack 114 = .ok (.aload_n 0, 1) := by decide +kernel
theorem dX4_giveBack_115 : decode cX4_giveBack 115 = .ok (.getfield 11, 3) := by decide +kernel
theorem dX4_giveBack_118 : decode cX4_giveBack 118 = .ok (.iload_n 3, 1) := by decide +kernel
theorem dX4_giveBack_119 : decode cX4_giveBack 119 = .ok (.iconst 2, 1) := by decide +kernel
theorem dX4_giveBack_120 : decode cX4_giveBack 120 = .ok (.iadd, 1) := by decide +kernel
theorem dX4_giveBack_121 : decode cX4_giveBack 121 = .ok (.iaload, 1) := by decide +kernel
theorem dX4_giveBack_122 : decode cX4_giveBack 122 = .ok (.putfield 45, 3) := by decide +kernel
theorem dX4_giveBack_125 : decode cX4_giveBack 125 = .ok (.iconst 1, 1) := by decide +kernel
theorem dX4_giveBack_126 : decode cX4_giveBack 126 = .ok (.ireturn, 1) := by decide +kernel
theorem dX5_init_0 : decode cX5_init 0 = .ok (.aload_n 0, 1) := by decide +kernel
theorem dX5_init_1 : decode cX5_init 1 = .ok (.invokespecial 1, 3) := by decide +kernel
theorem dX5_init_4 : decode cX5_init 4 = .ok (.return_, 1) := by decide +kernel
theorem dX5_signs_0 : decode cX5_signs 0 = .ok (.bipush 10, 2) := by decide +kernel
theorem dX5_signs_2 : decode cX5_signs 2 = .ok (.ireturn, 1) := by decide +kernel
theorem dX5_reach_0 : decode cX5_reach 0 = .ok (.bipush 20, 2) := by decide +kernel
theorem dX5_reach_2 : decode cX5_reach 2 = .ok (.ireturn, 1) := by decide +kernel
theorem dX5_bears_0 : decode cX5_bears 0 = .ok (.iconst 2, 1) := by decide +kernel
theorem dX5_bears_1 : decode cX5_bears 1 = .ok (.ireturn, 1) := by decide +kernel
theorem dX6_init_0 : decode cX6_init 0 = .ok (.aload_n 0, 1) := by decide +kernel
theorem dX6_init_1 : decode cX6_init 1 = .ok (.invokespecial 3, 3) := by decide +kernel
theorem dX6_init_4 : decode cX6_init 4 = .ok (.aload_n 0, 1) := by decide +kernel
theorem dX6_init_5 : decode cX6_init 5 = .ok (.sipush 150, 3) := by decide +kernel
theorem dX6_init_8 : decode cX6_init 8 = .ok (.newarray .byte, 2) := by decide +kernel
theorem dX6_init_10 : decode cX6_init 10 = .ok (.putfield 11, 3) := by decide +kernel
theorem dX6_init_13 : decode cX6_init 13 = .ok (.return_, 1) := by decide +kernel
theorem dX6_append_0 : decode cX6_append 0 = .ok (.aload_n 0, 1) := by decide +kernel
theorem dX6_append_1 : decode cX6_append 1 = .ok (.getfield 15, 3) := by decide +kernel
theorem dX6_append_4 : decode cX6_append 4 = .ok (.sipush 150, 3) := by decide +kernel
theorem dX6_append_7 : decode cX6_append 7 = .ok (.if_icmp .lt 5, 3) := by decide +kernel
theorem dX6_append_10 : decode cX6_append 10 = .ok (.iconst 0, 1) := by decide +kernel
theorem dX6_append_11 : decode cX6_append 11 = .ok (.ireturn, 1) := by decide +kernel
theorem dX6_append_12 : decode cX6_append 12 = .ok (.aload_n 0, 1) := by decide +kernel
theorem dX6_append_13 : decode cX6_append 13 = .ok (.getfield 11, 3) := by decide +kernel
theorem dX6_append_16 : decode cX6_append 16 = .ok (.aload_n 0, 1) := by decide +kernel
theorem dX6_append_17 : decode cX6_append 17 = .ok (.getfield 15, 3) := by decide +kernel
theorem dX6_append_20 : decode cX6_append 20 = .ok (.iload_n 1, 1) := by decide +kernel
theorem dX6_append_21 : decode cX6_append 21 = .ok (.i2b, 1) := by decide +kernel
theorem dX6_append_22 : decode cX6_append 22 = .ok (.bastore, 1) := by decide +kernel
theorem dX6_append_23 : decode cX6_append 23 = .ok (.aload_n 0, 1) := by decide +kernel
theorem dX6_append_24 : decode cX6_append 24 = .ok (.dup, 1) := by decide +kernel
theorem dX6_append_25 : decode cX6_append 25 = .ok (.getfield 15, 3) := by decide +kernel
theorem dX6_append_28 : decode cX6_append 28 = .ok (.iconst 1, 1) := by decide +kernel
theorem dX6_append_29 : decode cX6_append 29 = .ok (.iadd, 1) := by decide +kernel
theorem dX6_append_30 : decode cX6_append 30 = .ok (.putfield 15, 3) := by decide +kernel
theorem dX6_append_33 : decode cX6_append 33 = .ok (.iconst 1, 1) := by decide +kernel
theorem dX6_append_34 : decode cX6_append 34 = .ok (.ireturn, 1) := by decide +kernel
theorem dX6_readInto_0 : decode cX6_readInto 0 = .ok (.aload_n 0, 1) := by decide +kernel
theorem dX6_readInto_1 : decode cX6_readInto 1 = .ok (.iconst 0, 1) := by decide +kernel
theorem dX6_readInto_2 : decode cX6_readInto 2 = .ok (.putfield 19, 3) := by decide +kernel
theorem dX6_readInto_5 : decode cX6_readInto 5 = .ok (.aload_n 0, 1) := by decide +kernel
theorem dX6_readInto_6 : decode cX6_readInto 6 = .ok (.invokevirtual 22, 3) := by decide +kernel
theorem dX6_readInto_9 : decode cX6_readInto 9 = .ok (.aload_n 0, 1) := by decide +kernel
theorem dX6_readInto_10 : decode cX6_readInto 10 = .ok (.ldc 25, 2) := by decide +kernel
theorem dX6_readInto_12 : decode cX6_readInto 12 = .ok (.invokevirtual 27, 3) := by decide +kernel
theorem dX6_readInto_15 : decode cX6_readInto 15 = .ok (.ifCond .eq 10, 3) := by decide +kernel
theorem dX6_readInto_18 : decode cX6_readInto 18 = .ok (.aload_n 0, 1) := by decide +kernel
theorem dX6_readInto_19 : decode cX6_readInto 19 = .ok (.invokevirtual 31, 3) := by decide +kernel
theorem dX6_readInto_22 : decode cX6_readInto 22 = .ok (.ifCond .ne 5, 3) := by decide +kernel
theorem dX6_readInto_25 : decode cX6_readInto 25 = .ok (.iconst (-1), 1) := by decide +kernel
theorem dX6_readInto_26 : decode cX6_readInto 26 = .ok (.ireturn, 1) := by decide +kernel
theorem dX6_readInto_27 : decode cX6_readInto 27 = .ok (.iconst 1, 1) := by decide +kernel
theorem dX6_readInto_28 : decode cX6_readInto 28 = .ok (.istore_n 2, 1) := by decide +kernel
theorem dX6_readInto_29 : decode cX6_readInto 29 = .ok (.iconst 0, 1) := by decide +kernel
theorem dX6_readInto_30 : decode cX6_readInto 30 = .ok (.istore_n 3, 1) := by decide +kernel
theorem dX6_readInto_31 : decode cX6_readInto 31 = .ok (.iload_n 3, 1) := by decide +kernel
theorem dX6_readInto_32 : decode cX6_readInto 32 = .ok (.sipush 150, 3) := by decide +kernel
theorem dX6_readInto_35 : decode cX6_readInto 35 = .ok (.if_icmp .ge 101, 3) := by decide +kernel
theorem dX6_readInto_38 : decode cX6_readInto 38 = .ok (.aload_n 0, 1) := by decide +kernel
theorem dX6_readInto_39 : decode cX6_readInto 39 = .ok (.invokevirtual 22, 3) := by decide +kernel
theorem dX6_readInto_42 : decode cX6_readInto 42 = .ok (.aload_n 0, 1) := by decide +kernel
theorem dX6_readInto_43 : decode cX6_readInto 43 = .ok (.getfield 35, 3) := by decide +kernel
theorem dX6_readInto_46 : decode cX6_readInto 46 = .ok (.ifCond .ne 5, 3) := by decide +kernel
theorem dX6_readInto_49 : decode cX6_readInto 49 = .ok (.iload_n 2, 1) := by decide +kernel
theorem dX6_readInto_50 : decode cX6_readInto 50 = .ok (.ireturn, 1) := by decide +kernel
theorem dX6_readInto_51 : decode cX6_readInto 51 = .ok (.aload_n 0, 1) := by decide +kernel
theorem dX6_readInto_52 : decode cX6_readInto 52 = .ok (.ldc 38, 2) := by decide +kernel
theorem dX6_readInto_54 : decode cX6_readInto 54 = .ok (.invokevirtual 27, 3) := by decide +kernel
theorem dX6_readInto_57 : decode cX6_readInto 57 = .ok (.ifCond .eq 13, 3) := by decide +kernel
theorem dX6_readInto_60 : decode cX6_readInto 60 = .ok (.aload_n 0, 1) := by decide +kernel
theorem dX6_readInto_61 : decode cX6_readInto 61 = .ok (.aload_n 1, 1) := by decide +kernel
theorem dX6_readInto_62 : decode cX6_readInto 62 = .ok (.invokevirtual 40, 3) := by decide +kernel
theorem dX6_readInto_65 : decode cX6_readInto 65 = .ok (.istore 4, 2) := by decide +kernel
theorem dX6_readInto_67 : decode cX6_readInto 67 = .ok (.goto 46, 3) := by decide +kernel
theorem dX6_readInto_70 : decode cX6_readInto 70 = .ok (.aload_n 0, 1) := by decide +kernel
theorem dX6_readInto_71 : decode cX6_readInto 71 = .ok (.ldc 44, 2) := by decide +kernel
theorem dX6_readInto_73 : decode cX6_readInto 73 = .ok (.invokevirtual 27, 3) := by decide +kernel
theorem dX6_readInto_76 : decode cX6_readInto 76 = .ok (.ifCond .eq 13, 3) := by decide +kernel
theorem dX6_readInto_79 : decode cX6_readInto 79 = .ok (.aload_n 0, 1) := by decide +kernel
theorem dX6_readInto_80 : decode cX6_readInto 80 = .ok (.aload_n 1, 1) := by decide +kernel
theorem dX6_readInto_81 : decode cX6_readInto 81 = .ok (.invokevirtual 46, 3) := by decide +kernel
theorem dX6_readInto_84 : decode cX6_readInto 84 = .ok (.istore 4, 2) := by decide +kernel
theorem dX6_readInto_86 : decode cX6_readInto 86 = .ok (.goto 27, 3) := by decide +kernel
theorem dX6_readInto_89 : decode cX6_readInto 89 = .ok (.aload_n 0, 1) := by decide +kernel
theorem dX6_readInto_90 : decode cX6_readInto 90 = .ok (.ldc 49, 2) := by decide +kernel
theorem dX6_readInto_92 : decode cX6_readInto 92 = .ok (.invokevirtual 27, 3) := by decide +kernel
theorem dX6_readInto_95 : decode cX6_readInto 95 = .ok (.ifCond .eq 15, 3) := by decide +kernel
theorem dX6_readInto_98 : decode cX6_readInto 98 = .ok (.aload_n 0, 1) := by decide +kernel
theorem dX6_readInto_99 : decode cX6_readInto 99 = .ok (.aload_n 1, 1) := by decide +kernel
theorem dX6_readInto_100 : decode cX6_readInto 100 = .ok (.invokevirtual 51, 3) := by decide +kernel
theorem dX6_readInto_103 : decode cX6_readInto 103 = .ok (.ifCond .eq 7, 3) := by decide +kernel
theorem dX6_readInto_106 : decode cX6_readInto 106 = .ok (.iconst 1, 1) := by decide +kernel
theorem dX6_readInto_107 : decode cX6_readInto 107 = .ok (.goto 4, 3) := by decide +kernel
theorem dX6_readInto_110 : decode cX6_readInto 110 = .ok (.iconst 0, 1) := by decide +kernel
theorem dX6_readInto_111 : decode cX6_readInto 111 = .ok (.istore 4, 2) := by decide +kernel
theorem dX6_readInto_113 : decode cX6_readInto 113 = .ok (.iload 4, 2) := by decide +kernel
theorem dX6_readInto_115 : decode cX6_readInto 115 = .ok (.ifCond .eq 10, 3) := by decide +kernel
theorem dX6_readInto_118 : decode cX6_readInto 118 = .ok (.aload_n 0, 1) := by decide +kernel
theorem dX6_readInto_119 : decode cX6_readInto 119 = .ok (.invokevirtual 31, 3) := by decide +kernel
theorem dX6_readInto_122 : decode cX6_readInto 122 = .ok (.ifCond .ne 5, 3) := by decide +kernel
theorem dX6_readInto_125 : decode cX6_readInto 125 = .ok (.iconst (-1), 1) := by decide +kernel
theorem dX6_readInto_126 : decode cX6_readInto 126 = .ok (.ireturn, 1) := by decide +kernel
theorem dX6_readInto_127 : decode cX6_readInto 127 = .ok (.iinc 2 1, 3) := by decide +kernel
theorem dX6_readInto_130 : decode cX6_readInto 130 = .ok (.iinc 3 1, 3) := by decide +kernel
theorem dX6_readInto_133 : decode cX6_readInto 133 = .ok (.goto (-102), 3) := by decide +kernel
theorem dX6_readInto_136 : decode cX6_readInto 136 = .ok (.iload_n 2, 1) := by decide +kernel
theorem dX6_readInto_137 : decode cX6_readInto 137 = .ok (.ireturn, 1) := by decide +kernel
