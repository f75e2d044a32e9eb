theorem dX12_canBeAt_0 : decode cX12_canBeAt 0 = .ok (.iconst 1, 1) := by decide +kernel
theorem dX12_canBeAt_1 : decode cX12_canBeAt 1 = .ok (.istore 5, 2) := by decide +kernel
theorem dX12_canBeAt_3 : decode cX12_canBeAt 3 = .ok (.iconst 0, 1) := by decide +kernel
theorem dX12_canBeAt_4 : decode cX12_canBeAt 4 = .ok (.istore 6, 2) := by decide +kernel
theorem dX12_canBeAt_6 : decode cX12_canBeAt 6 = .ok (.iload 6, 2) := by decide +kernel
theorem dX12_canBeAt_8 : decode cX12_canBeAt 8 = .ok (.aload_n 0, 1) := by decide +kernel
theorem dX12_canBeAt_9 : decode cX12_canBeAt 9 = .ok (.getfield 7, 3) := by decide +kernel
theorem dX12_canBeAt_12 : decode cX12_canBeAt 12 = .ok (.iconst 2, 1) := by decide +kernel
theorem dX12_canBeAt_13 : decode cX12_canBeAt 13 = .ok (.iaload, 1) := by decide +kernel
theorem dX12_canBeAt_14 : decode cX12_canBeAt 14 = .ok (.if_icmp .ge 87, 3) := by decide +kernel
theorem dX12_canBeAt_17 : decode cX12_canBeAt 17 = .ok (.aload_n 0, 1) := by decide +kernel
theorem dX12_canBeAt_18 : decode cX12_canBeAt 18 = .ok (.getfield 7, 3) := by decide +kernel
theorem dX12_canBeAt_21 : decode cX12_canBeAt 21 = .ok (.bipush 47, 2) := by decide +kernel
theorem dX12_canBeAt_23 : decode cX12_canBeAt 23 = .ok (.iconst 3, 1) := by decide +kernel
theorem dX12_canBeAt_24 : decode cX12_canBeAt 24 = .ok (.iload 6, 2) := by decide +kernel
theorem dX12_canBeAt_26 : decode cX12_canBeAt 26 = .ok (.imul, 1) := by decide +kernel
theorem dX12_canBeAt_27 : decode cX12_canBeAt 27 = .ok (.iadd, 1) := by decide +kernel
theorem dX12_canBeAt_28 : decode cX12_canBeAt 28 = .ok (.iconst 2, 1) := by decide +kernel
theorem dX12_canBeAt_29 : decode cX12_canBeAt 29 = .ok (.iadd, 1) := by decide +kernel
theorem dX12_canBeAt_30 : decode cX12_canBeAt 30 = .ok (.iaload, 1) := by decide +kernel
theorem dX12_canBeAt_31 : decode cX12_canBeAt 31 = .ok (.iload_n 3, 1) := by decide +kernel
theorem dX12_canBeAt_32 : decode cX12_canBeAt 32 = .ok (.invokestatic 97, 3) := by decide +kernel
theorem dX12_canBeAt_35 : decode cX12_canBeAt 35 = .ok (.aload_n 0, 1) := by decide +kernel
theorem dX12_canBeAt_36 : decode cX12_canBeAt 36 = .ok (.getfield 7, 3) := by decide +kernel
theorem dX12_canBeAt_39 : decode cX12_canBeAt 39 = .ok (.bipush 24, 2) := by decide +kernel
theorem dX12_canBeAt_41 : decode cX12_canBeAt 41 = .ok (.iload_n 1, 1) := by decide +kernel
theorem dX12_canBeAt_42 : decode cX12_canBeAt 42 = .ok (.iadd, 1) := by decide +kernel
theorem dX12_canBeAt_43 : decode cX12_canBeAt 43 = .ok (.iaload, 1) := by decide +kernel
theorem dX12_canBeAt_44 : decode cX12_canBeAt 44 = .ok (.invokestatic 105, 3) := by decide +kernel
theorem dX12_canBeAt_47 : decode cX12_canBeAt 47 = .ok (.if_icmp .gt 7, 3) := by decide +kernel
theorem dX12_canBeAt_50 : decode cX12_canBeAt 50 = .ok (.iconst 1, 1) := by decide +kernel
theorem dX12_canBeAt_51 : decode cX12_canBeAt 51 = .ok (.goto 4, 3) := by decide +kernel
theorem dX12_canBeAt_54 : decode cX12_canBeAt 54 = .ok (.iconst 0, 1) := by decide +kernel
theorem dX12_canBeAt_55 : decode cX12_canBeAt 55 = .ok (.istore 7, 2) := by decide +kernel
theorem dX12_canBeAt_57 : decode cX12_canBeAt 57 = .ok (.iload 5, 2) := by decide +kernel
theorem dX12_canBeAt_59 : decode cX12_canBeAt 59 = .ok (.ifCond .eq 33, 3) := by decide +kernel
theorem dX12_canBeAt_62 : decode cX12_canBeAt 62 = .ok (.aload_n 0, 1) := by decide +kernel
theorem dX12_canBeAt_63 : decode cX12_canBeAt 63 = .ok (.iload 6, 2) := by decide +kernel
theorem dX12_canBeAt_65 : decode cX12_canBeAt 65 = .ok (.iload_n 1, 1) := by decide +kernel
theorem dX12_canBeAt_66 : decode cX12_canBeAt 66 = .ok (.iload_n 2, 1) := by decide +kernel
theorem dX12_canBeAt_67 : decode cX12_canBeAt 67 = .ok (.invokevirtual 177, 3) := by decide +kernel
theorem dX12_canBeAt_70 : decode cX12_canBeAt 70 = .ok (.ifCond .eq 18, 3) := by decide +kernel
theorem dX12_canBeAt_73 : decode cX12_canBeAt 73 = .ok (.iload 4, 2) := by decide +kernel
theorem dX12_canBeAt_75 : decode cX12_canBeAt 75 = .ok (.iload 6, 2) := by decide +kernel
theorem dX12_canBeAt_77 : decode cX12_canBeAt 77 = .ok (.invokestatic 181, 3) := by decide +kernel
theorem dX12_canBeAt_80 : decode cX12_canBeAt 80 = .ok (.ifCond .ne 8, 3) := by decide +kernel
theorem dX12_canBeAt_83 : decode cX12_canBeAt 83 = .ok (.iload 7, 2) := by decide +kernel
theorem dX12_canBeAt_85 : decode cX12_canBeAt 85 = .ok (.ifCond .eq 7, 3) := by decide +kernel
theorem dX12_canBeAt_88 : decode cX12_canBeAt 88 = .ok (.iconst 1, 1) := by decide +kernel
theorem dX12_canBeAt_89 : decode cX12_canBeAt 89 = .ok (.goto 4, 3) := by decide +kernel
theorem dX12_canBeAt_92 : decode cX12_canBeAt 92 = .ok (.iconst 0, 1) := by decide +kernel
theorem dX12_canBeAt_93 : decode cX12_canBeAt 93 = .ok (.istore 5, 2) := by decide +kernel
theorem dX12_canBeAt_95 : decode cX12_canBeAt 95 = .ok (.iinc 6 1, 3) := by decide +kernel
theorem dX12_canBeAt_98 : decode cX12_canBeAt 98 = .ok (.goto (-92), 3) := by decide +kernel
theorem dX12_canBeAt_101 : decode cX12_canBeAt 101 = .ok (.iload 5, 2) := by decide +kernel
theorem dX12_canBeAt_103 : decode cX12_canBeAt 103 = .ok (.ireturn, 1) := by decide +kernel
theorem dX12_where_0 : decode cX12_where 0 = .ok (.aload_n 0, 1) := by decide +kernel
theorem dX12_where_1 : decode cX12_where 1 = .ok (.iload_n 1, 1) := by decide +kernel
theorem dX12_where_2 : decode cX12_where 2 = .ok (.invokevirtual 117, 3) := by decide +kernel
theorem dX12_where_5 : decode cX12_where 5 = .ok (.ifCond .eq 25, 3) := by decide +kernel
theorem dX12_where_8 : decode cX12_where 8 = .ok (.iload_n 2, 1) := by decide +kernel
theorem dX12_where_9 : decode cX12_where 9 = .ok (.i2l, 1) := by decide +kernel
theorem dX12_where_10 : decode cX12_where 10 = .ok (.lconst 0, 1) := by decide +kernel
theorem dX12_where_11 : decode cX12_where 11 = .ok (.ldc2_w 72, 3) := by decide +kernel
theorem dX12_where_14 : decode cX12_where 14 = .ok (.invokestatic 65, 3) := by decide +kernel
theorem dX12_where_17 : decode cX12_where 17 = .ok (.ifCond .eq 13, 3) := by decide +kernel
theorem dX12_where_20 : decode cX12_where 20 = .ok (.iload_n 3, 1) := by decide +kernel
theorem dX12_where_21 : decode cX12_where 21 = .ok (.i2l, 1) := by decide +kernel
theorem dX12_where_22 : decode cX12_where 22 = .ok (.lconst 0, 1) := by decide +kernel
theorem dX12_where_23 : decode cX12_where 23 = .ok (.lconst 1, 1) := by decide +kernel
theorem dX12_where_24 : decode cX12_where 24 = .ok (.invokestatic 65, 3) := by decide +kernel
theorem dX12_where_27 : decode cX12_where 27 = .ok (.ifCond .ne 10, 3) := by decide +kernel
theorem dX12_where_30 : decode cX12_where 30 = .ok (.aload_n 0, 1) := by decide +kernel
theorem dX12_where_31 : decode cX12_where 31 = .ok (.bipush (-2), 2) := by decide +kernel
theorem dX12_where_33 : decode cX12_where 33 = .ok (.invokevirtual 80, 3) := by decide +kernel
theorem dX12_where_36 : decode cX12_where 36 = .ok (.ireturn, 1) := by decide +kernel
theorem dX12_where_37 : decode cX12_where 37 = .ok (.iconst 0, 1) := by decide +kernel
theorem dX12_where_38 : decode cX12_where 38 = .ok (.istore 4, 2) := by decide +kernel
theorem dX12_where_40 : decode cX12_where 40 = .ok (.iconst (-1), 1) := by decide +kernel
theorem dX12_where_41 : decode cX12_where 41 = .ok (.istore 5, 2) := by decide +kernel
theorem dX12_where_43 : decode cX12_where 43 = .ok (.iconst 0, 1) := by decide +kernel
theorem dX12_where_44 : decode cX12_where 44 = .ok (.istore 6, 2) := by decide +kernel
theorem dX12_where_46 : decode cX12_where 46 = .ok (.iload 6, 2) := by decide +kernel
theorem dX12_where_48 : decode cX12_where 48 = .ok (.bipush 100, 2) := by decide +kernel
theorem dX12_where_50 : decode cX12_where 50 = .ok (.if_icmp .ge 38, 3) := by decide +kernel
theorem dX12_where_53 : decode cX12_where 53 = .ok (.aload_n 0, 1) := by decide +kernel
theorem dX12_where_54 : decode cX12_where 54 = .ok (.iload_n 1, 1) := by decide +kernel
theorem dX12_where_55 : decode cX12_where 55 = .ok (.iload_n 2, 1) := by decide +kernel
theorem dX12_where_56 : decode cX12_where 56 = .ok (.iload 6, 2) := by decide +kernel
theorem dX12_where_58 : decode cX12_where 58 = .ok (.iconst 0, 1) := by decide +kernel
theorem dX12_where_59 : decode cX12_where 59 = .ok (.invokevirtual 185, 3) := by decide +kernel
theorem dX12_where_62 : decode cX12_where 62 = .ok (.ifCond .eq 20, 3) := by decide +kernel
theorem dX12_where_65 : decode cX12_where 65 = .ok (.iload 4, 2) := by decide +kernel
theorem dX12_where_67 : decode cX12_where 67 = .ok (.ifCond .ne 8, 3) := by decide +kernel
theorem dX12_where_70 : decode cX12_where 70 = .ok (.iload 6, 2) := by decide +kernel
theorem dX12_where_72 : decode cX12_where 72 = .ok (.goto 5, 3) := by decide +kernel
theorem dX12_where_75 : decode cX12_where 75 = .ok (.iload 5, 2) := by decide +kernel
theorem dX12_where_77 : decode cX12_where 77 = .ok (.istore 5, 2) := by decide +kernel
theorem dX12_where_79 : decode cX12_where 79 = .ok (.iinc 4 1, 3) := by decide +kernel
theorem dX12_where_82 : decode cX12_where 82 = .ok (.iinc 6 1, 3) := by decide +kernel
theorem dX12_where_85 : decode cX12_where 85 = .ok (.goto (-39), 3) := by decide +kernel
theorem dX12_where_88 : decode cX12_where 88 = .ok (.iload_n 3, 1) := by decide +kernel
theorem dX12_where_89 : decode cX12_where 89 = .ok (.ifCond .ne 8, 3) := by decide +kernel
theorem dX12_where_92 : decode cX12_where 92 = .ok (.iload 4, 2) := by decide +kernel
theorem dX12_where_94 : decode cX12_where 94 = .ok (.goto 5, 3) := by decide +kernel
theorem dX12_where_97 : decode cX12_where 97 = .ok (.iload 5, 2) := by decide +kernel
theorem dX12_where_99 : decode cX12_where 99 = .ok (.ireturn, 1) := by decide +kernel
theorem dX12_look_0 : decode cX12_look 0 = .ok (.aload_n 0, 1) := by decide +kernel
theorem dX12_look_1 : decode cX12_look 1 = .ok (.iload_n 1, 1) := by decide +kernel
theorem dX12_look_2 : decode cX12_look 2 = .ok (.invokevirtual 117, 3) := by decide +kernel
theorem dX12_look_5 : decode cX12_look 5 = .ok (.ifCond .eq 15, 3) := by decide +kernel
theorem dX12_look_8 : decode cX12_look 8 = .ok (.iload_n 2, 1) := by decide +kernel
theorem dX12_look_9 : decode cX12_look 9 = .ok (.i2l, 1) := by decide +kernel
theorem dX12_look_10 : decode cX12_look 10 = .ok (.lconst 0, 1) := by decide +kernel
theorem dX12_look_11 : decode cX12_look 11 = .ok (.ldc2_w 72, 3) := by decide +kernel
theorem dX12_look_14 : decode cX12_look 14 = .ok (.invokestatic 65, 3) := by decide +kernel
theorem dX12_look_17 : decode cX12_look 17 = .ok (.ifCond .ne 10, 3) := by decide +kernel
theorem dX12_look_20 : decode cX12_look 20 = .ok (.aload_n 0, 1) := by decide +kernel
theorem dX12_look_21 : decode cX12_look 21 = .ok (.bipush (-2), 2) := by decide +kernel
theorem dX12_look_23 : decode cX12_look 23 = .ok (.invokevirtual 80, 3) := by decide +kernel
theorem dX12_look_26 : decode cX12_look 26 = .ok (.ireturn, 1) := by decide +kernel
theorem dX12_look_27 : decode cX12_look 27 = .ok (.iconst 0, 1) := by decide +kernel
theorem dX12_look_28 : decode cX12_look 28 = .ok (.istore_n 3, 1) := by decide +kernel
theorem dX12_look_29 : decode cX12_look 29 = .ok (.iconst (-1), 1) := by decide +kernel
theorem dX12_look_30 : decode cX12_look 30 = .ok (.istore 4, 2) := by decide +kernel
theorem dX12_look_32 : decode cX12_look 32 = .ok (.ldc 189, 2) := by decide +kernel
theorem dX12_look_34 : decode cX12_look 34 = .ok (.istore 5, 2) := by decide +kernel
theorem dX12_look_36 : decode cX12_look 36 = .ok (.iconst 0, 1) := by decide +kernel
theorem dX12_look_37 : decode cX12_look 37 = .ok (.istore 6, 2) := by decide +kernel
theorem dX12_look_39 : decode cX12_look 39 = .ok (.iload 6, 2) := by decide +kernel
theorem dX12_look_41 : decode cX12_look 41 = .ok (.bipush 100, 2) := by decide +kernel
theorem dX12_look_43 : decode cX12_look 43 = .ok (.if_icmp .ge 29, 3) := by decide +kernel
theorem dX12_look_46 : decode cX12_look 46 = .ok (.iload_n 3, 1) := by decide +kernel
theorem dX12_look_47 : decode cX12_look 47 = .ok (.aload_n 0, 1) := by decide +kernel
theorem dX12_look_48 : decode cX12_look 48 = .ok (.iload_n 1, 1) := by decide +kernel
theorem dX12_look_49 : decode cX12_look 49 = .ok (.iload_n 2, 1) := by decide +kernel
theorem dX12_look_50 : decode cX12_look 50 = .ok (.iload 6, 2) := by decide +kernel
theorem dX12_look_52 : decode cX12_look 52 = .ok (.iconst 0, 1) := by decide +kernel
theorem dX12_look_53 : decode cX12_look 53 = .ok (.invokevirtual 185, 3) := by decide +kernel
theorem dX12_look_56 : decode cX12_look 56 = .ok (.ifCond .eq 7, 3) := by decide +kernel
theorem dX12_look_59 : decode cX12_look 59 = .ok (.iconst 1, 1) := by decide +kernel
theorem dX12_look_60 : decode cX12_look 60 = .ok (.goto 4, 3) := by decide +kernel
theorem dX12_look_63 : decode cX12_look 63 = .ok (.iconst 0, 1) := by decide +kernel
theorem dX12_look_64 : decode cX12_look 64 = .ok (.iadd, 1) := by decide +kernel
theorem dX12_look_65 : decode cX12_look 65 = .ok (.istore_n 3, 1) := by decide +kernel
theorem dX12_look_66 : decode cX12_look 66 = .ok (.iinc 6 1, 3) := by decide +kernel
theorem dX12_look_69 : decode cX12_look 69 = .ok (.goto (-30), 3) := by decide +kernel
theorem dX12_look_72 : decode cX12_look 72 = .ok (.iconst 0, 1) := by decide +kernel
theorem dX12_look_73 : decode cX12_look 73 = .ok (.istore 6, 2) := by decide +kernel
theorem dX12_look_75 : decode cX12_look 75 = .ok (.iload 6, 2) := by decide +kernel
theorem dX12_look_77 : decode cX12_look 77 = .ok (.bipush 100, 2) := by decide +kernel
theorem dX12_look_79 : decode cX12_look 79 = .ok (.if_icmp .ge 127, 3) := by decide +kernel
theorem dX12_look_82 : decode cX12_look 82 = .ok (.iload_n 3, 1) := by decide +kernel
theorem dX12_look_83 : decode cX12_look 83 = .ok (.ifCond .le 123, 3) := by decide +kernel
theorem dX12_look_86 : decode cX12_look 86 = .ok (.iconst 0, 1) := by decide +kernel
theorem dX12_look_87 : decode cX12_look 87 = .ok (.istore 7, 2) := by decide +kernel
theorem dX12_look_89 : decode cX12_look 89 = .ok (.iconst 0, 1) := by decide +kernel
theorem dX12_look_90 : decode cX12_look 90 = .ok (.istore 8, 2) := by decide +kernel
theorem dX12_look_92 : decode cX12_look 92 = .ok (.iload 8, 2) := by decide +kernel
theorem dX12_look_94 : decode cX12_look 94 = .ok (.bipush 100, 2) := by decide +kernel
theorem dX12_look_96 : decode cX12_look 96 = .ok (.if_icmp .ge 53, 3) := by decide +kernel
theorem dX12_look_99 : decode cX12_look 99 = .ok (.iload 7, 2) := by decide +kernel
theorem dX12_look_101 : decode cX12_look 101 = .ok (.iload 6, 2) := by decide +kernel
theorem dX12_look_103 : decode cX12_look 103 = .ok (.iload 8, 2) := by decide +kernel
theorem dX12_look_105 : decode cX12_look 105 = .ok (.invokestatic 97, 3) := by decide +kernel
theorem dX12_look_108 : decode cX12_look 108 = .ok (.aload_n 0, 1) := by decide +kernel
theorem dX12_look_109 : decode cX12_look 109 = .ok (.getfield 7, 3) := by decide +kernel
theorem dX12_look_112 : decode cX12_look 112 = .ok (.bipush 24, 2) := by decide +kernel
theorem dX12_look_114 : decode cX12_look 114 = .ok (.iload_n 1, 1) := by decide +kernel
theorem dX12_look_115 : decode cX12_look 115 = .ok (.iadd, 1) := by decide +kernel
theorem dX12_look_116 : decode cX12_look 116 = .ok (.iaload, 1) := by decide +kernel
theorem dX12_look_117 : decode cX12_look 117 = .ok (.invokestatic 105, 3) := by decide +kernel
theorem dX12_look_120 : decode cX12_look 120 = .ok (.if_icmp .gt 19, 3) := by decide +kernel
theorem dX12_look_123 : decode cX12_look 123 = .ok (.aload_n 0, 1) := by decide +kernel
theorem dX12_look_124 : decode cX12_look 124 = .ok (.iload_n 1, 1) := by decide +kernel
theorem dX12_look_125 : decode cX12_look 125 = .ok (.iload_n 2, 1) := by decide +kernel
theorem dX12_look_126 : decode cX12_look 126 = .ok (.iload 8, 2) := by decide +kernel
theorem dX12_look_128 : decode cX12_look 128 = .ok (.iconst 0, 1) := by decide +kernel
theorem dX12_look_129 : decode cX12_look 129 = .ok (.invokevirtual 185, 3) := by decide +kernel
theorem dX12_look_132 : decode cX12_look 132 = .ok (.ifCond .eq 7, 3) := by decide +kernel
theorem dX12_look_135 : decode cX12_look 135 = .ok (.iconst 1, 1) := by decide +kernel
theorem dX12_look_136 : decode cX12_look 136 = .ok (.goto 4, 3) := by decide +kernel
theorem dX12_look_139 : decode cX12_look 139 = .ok (.iconst 0, 1) := by decide +kernel
theorem dX12_look_140 : decode cX12_look 140 = .ok (.iadd, 1) := by decide +kernel
theorem dX12_look_141 : decode cX12_look 141 = .ok (.istore 7, 2) := by decide +kernel
theorem dX12_look_143 : decode cX12_look 143 = .ok (.iinc 8 1, 3) := by decide +kernel
theorem dX12_look_146 : decode cX12_look 146 = .ok (.goto (-54), 3) := by decide +kernel
theorem dX12_look_149 : decode cX12_look 149 = .ok (.iconst 2, 1) := by decide +kernel
theorem dX12_look_150 : decode cX12_look 150 = .ok (.iload 7, 2) := by decide +kernel
theorem dX12_look_152 : decode cX12_look 152 = .ok (.imul, 1) := by decide +kernel
theorem dX12_look_153 : decode cX12_look 153 = .ok (.iload_n 3, 1) := by decide +kernel
theorem dX12_look_154 : decode cX12_look 154 = .ok (.if_icmp .le 8, 3) := by decide +kernel
theorem dX12_look_157 : decode cX12_look 157 = .ok (.iload 7, 2) := by decide +kernel
theorem dX12_look_159 : decode cX12_look 159 = .ok (.goto 7, 3) := by decide +kernel
theorem dX12_look_162 : decode cX12_look 162 = .ok (.iload_n 3, 1) := by decide +kernel
theorem dX12_look_163 : decode cX12_look 163 = .ok (.iload 7, 2) := by decide +kernel
theorem dX12_look_165 : decode cX12_look 165 = .ok (.isub, 1) := by decide +kernel
theorem dX12_look_166 : decode cX12_look 166 = .ok (.istore 8, 2) := by decide +kernel
theorem dX12_look_168 : decode cX12_look 168 = .ok (.iload 8, 2) := by decide +kernel
theorem dX12_look_170 : decode cX12_look 170 = .ok (.iload 5, 2) := by decide +kernel
theorem dX12_look_172 : decode cX12_look 172 = .ok (.if_icmp .ge 8, 3) := by decide +kernel
theorem dX12_look_175 : decode cX12_look 175 = .ok (.iload 6, 2) := by decide +kernel
theorem dX12_look_177 : decode cX12_look 177 = .ok (.goto 5, 3) := by decide +kernel
theorem dX12_look_180 : decode cX12_look 180 = .ok (.iload 4, 2) := by decide +kernel
theorem dX12_look_182 : decode cX12_look 182 = .ok (.istore 4, 2) := by decide +kernel
theorem dX12_look_184 : decode cX12_look 184 = .ok (.iload 8, 2) := by decide +kernel
theorem dX12_look_186 : decode cX12_look 186 = .ok (.iload 5, 2) := by decide +kernel
theorem dX12_look_188 : decode cX12_look 188 = .ok (.if_icmp .ge 8, 3) := by decide +kernel
theorem dX12_look_191 : decode cX12_look 191 = .ok (.iload 8, 2) := by decide +kernel
theorem dX12_look_193 : decode cX12_look 193 = .ok (.goto 5, 3) := by decide +kernel
theorem dX12_look_196 : decode cX12_look 196 = .ok (.iload 5, 2) := by decide +kernel
theorem dX12_look_198 : decode cX12_look 198 = .ok (.istore 5, 2) := by decide +kernel
theorem dX12_look_200 : decode cX12_look 200 = .ok (.iinc 6 1, 3) := by decide +kernel
theorem dX12_look_203 : decode cX12_look 203 = .ok (.goto (-128), 3) := by decide +kernel
theorem dX12_look_206 : decode cX12_look 206 = .ok (.iload 4, 2) := by decide +kernel
theorem dX12_look_208 : decode cX12_look 208 = .ok (.ireturn, 1) := by decide +kernel
theorem dX12_areTrue_0 : decode cX12_areTrue 0 = .ok (.iconst 0, 1) := by decide +kernel
theorem dX12_areTrue_1 : decode cX12_areTrue 1 = .ok (.istore 4, 2) := by decide +kernel
theorem dX12_areTrue_3 : decode cX12_areTrue 3 = .ok (.iconst 0, 1) := by decide +kernel
theorem dX12_areTrue_4 : decode cX12_areTrue 4 = .ok (.istore 5, 2) := by decide +kernel
theorem dX12_areTrue_6 : decode cX12_areTrue 6 = .ok (.iconst 0, 1) := by decide +kernel
theorem dX12_areTrue_7 : decode cX12_areTrue 7 = .ok (.istore 6, 2) := by decide +kernel
theorem dX12_areTrue_9 : decode cX12_areTrue 9 = .ok (.iload 6, 2) := by decide +kernel
theorem dX12_areTrue_11 : decode cX12_areTrue 11 = .ok (.aload_n 0, 1) := by decide +kernel
theorem dX12_areTrue_12 : decode cX12_areTrue 12 = .ok (.getfield 7, 3) := by decide +kernel
theorem dX12_areTrue_15 : decode cX12_areTrue 15 = .ok (.iconst 2, 1) := by decide +kernel
theorem dX12_areTrue_16 : decode cX12_areTrue 16 = .ok (.iaload, 1) := by decide +kernel
theorem dX12_areTrue_17 : decode cX12_areTrue 17 = .ok (.if_icmp .ge 39, 3) := by decide +kernel
theorem dX12_areTrue_20 : decode cX12_areTrue 20 = .ok (.iload 4, 2) := by decide +kernel
theorem dX12_areTrue_22 : decode cX12_areTrue 22 = .ok (.aload_n 0, 1) := by decide +kernel
theorem dX12_areTrue_23 : decode cX12_areTrue 23 = .ok (.iload 6, 2) := by decide +kernel
theorem dX12_areTrue_25 : decode cX12_areTrue 25 = .ok (.iload_n 1, 1) := by decide +kernel
theorem dX12_areTrue_26 : decode cX12_areTrue 26 = .ok (.iload_n 2, 1) := by decide +kernel
theorem dX12_areTrue_27 : decode cX12_areTrue 27 = .ok (.invokevirtual 177, 3) := by decide +kernel
theorem dX12_areTrue_30 : decode cX12_areTrue 30 = .ok (.ifCond .eq 16, 3) := by decide +kernel
theorem dX12_areTrue_33 : decode cX12_areTrue 33 = .ok (.iload_n 3, 1) := by decide +kernel
theorem dX12_areTrue_34 : decode cX12_areTrue 34 = .ok (.iload 6, 2) := by decide +kernel
theorem dX12_areTrue_36 : decode cX12_areTrue 36 = .ok (.invokestatic 181, 3) := by decide +kernel
theorem dX12_areTrue_39 : decode cX12_areTrue 39 = .ok (.ifCond .ne 7, 3) := by decide +kernel
theorem dX12_areTrue_42 : decode cX12_areTrue 42 = .ok (.iconst 1, 1) := by decide +kernel
theorem dX12_areTrue_43 : decode cX12_areTrue 43 = .ok (.goto 4, 3) := by decide +kernel
theorem dX12_areTrue_46 : decode cX12_areTrue 46 = .ok (.iconst 0, 1) := by decide +kernel
theorem dX12_areTrue_47 : decode cX12_areTrue 47 = .ok (.iadd, 1) := by decide +kernel
theorem dX12_areTrue_48 : decode cX12_areTrue 48 = .ok (.istore 4, 2) := by decide +kernel
theorem dX12_areTrue_50 : decode cX12_areTrue 50 = .ok (.iinc 6 1, 3) := by decide +kernel
theorem dX12_areTrue_53 : decode cX12_areTrue 53 = .ok (.goto (-44), 3) := by decide +kernel
theorem dX12_areTrue_56 : decode cX12_areTrue 56 = .ok (.iconst 0, 1) := by decide +kernel
theorem dX12_areTrue_57 : decode cX12_areTrue 57 = .ok (.istore 6, 2) := by decide +kernel
theorem dX12_areTrue_59 : decode cX12_areTrue 59 = .ok (.iload 6, 2) := by decide +kernel
theorem dX12_areTrue_61 : decode cX12_areTrue 61 = .ok (.bipush 100, 2) := by decide +kernel
theorem dX12_areTrue_63 : decode cX12_areTrue 63 = .ok (.if_icmp .ge 25, 3) := by decide +kernel
theorem dX12_areTrue_66 : decode cX12_areTrue 66 = .ok (.iload 5, 2) := by decide +kernel
theorem dX12_areTrue_68 : decode cX12_areTrue 68 = .ok (.ifCond .ne 20, 3) := by decide +kernel
theorem dX12_areTrue_71 : decode cX12_areTrue 71 = .ok (.aload_n 0, 1) := by decide +kernel
theorem dX12_areTrue_72 : decode cX12_areTrue 72 = .ok (.iload_n 1, 1) := by decide +kernel
theorem dX12_areTrue_73 : decode cX12_areTrue 73 = .ok (.iload_n 2, 1) := by decide +kernel
theorem dX12_areTrue_74 : decode cX12_areTrue 74 = .ok (.iload 6, 2) := by decide +kernel
theorem dX12_areTrue_76 : decode cX12_areTrue 76 = .ok (.iload_n 3, 1) := by decide +kernel
theorem dX12_areTrue_77 : decode cX12_areTrue 77 = .ok (.invokevirtual 185, 3) := by decide +kernel
theorem dX12_areTrue_80 : decode cX12_areTrue 80 = .ok (.istore 5, 2) := by decide +kernel
theorem dX12_areTrue_82 : decode cX12_areTrue 82 = .ok (.iinc 6 1, 3) := by decide +kernel
theorem dX12_areTrue_85 : decode cX12_areTrue 85 = .ok (.goto (-26), 3) := by decide +kernel
theorem dX12_areTrue_88 : decode cX12_areTrue 88 = .ok (.iload 5, 2) := by decide +kernel
theorem dX12_areTrue_90 : decode cX12_areTrue 90 = .ok (.ifCond .eq 25, 3) := by decide +kernel
theorem dX12_areTrue_93 : decode cX12_areTrue 93 = .ok (.iload 4, 2) := by decide +kernel
theorem dX12_areTrue_95 : decode cX12_areTrue 95 = .ok (.aload_n 0, 1) := by decide +kernel
theorem dX12_areTrue_96 : decode cX12_areTrue 96 = .ok (.getfield 7, 3) := by decide +kernel
theorem dX12_areTrue_99 : decode cX12_areTrue 99 = .ok (.bipush 24, 2) := by decide +kernel
theorem dX12_areTrue_101 : decode cX12_areTrue 101 = .ok (.iload_n 1, 1) := by decide +kernel
theorem dX12_areTrue_102 : decode cX12_areTrue 102 = .ok (.iadd, 1) := by decide +kernel
theorem dX12_areTrue_103 : decode cX12_areTrue 103 = .ok (.iaload, 1) := by decide +kernel
theorem dX12_areTrue_104 : decode cX12_areTrue 104 = .ok (.iload_n 2, 1) := by decide +kernel
theorem dX12_areTrue_105 : decode cX12_areTrue 105 = .ok (.invokestatic 108, 3) := by decide +kernel
theorem dX12_areTrue_108 : decode cX12_areTrue 108 = .ok (.if_icmp .gt 7, 3) := by decide +kernel
theorem dX12_areTrue_111 : decode cX12_areTrue 111 = .ok (.iconst 1, 1) := by decide +kernel
theorem dX12_areTrue_112 : decode cX12_areTrue 112 = .ok (.goto 4, 3) := by decide +kernel
theorem dX12_areTrue_115 : decode cX12_areTrue 115 = .ok (.iconst 0, 1) := by decide +kernel
theorem dX12_areTrue_116 : decode cX12_areTrue 116 = .ok (.ireturn, 1) := by decide +kernel
theorem dX12_forged_0 : decode cX12_forged 0 = .ok (.aload_n 0, 1) := by decide +kernel
theorem dX12_forged_1 : decode cX12_forged 1 = .ok (.iload_n 1, 1) := by decide +kernel
theorem dX12_forged_2 : decode cX12_forged 2 = .ok (.invokevirtual 117, 3) := by decide +kernel
theorem dX12_forged_5 : decode cX12_forged 5 = .ok (.ifCond .ne 10, 3) := by decide +kernel
theorem dX12_forged_8 : decode cX12_forged 8 = .ok (.aload_n 0, 1) := by decide +kernel
theorem dX12_forged_9 : decode cX12_forged 9 = .ok (.bipush (-2), 2) := by decide +kernel
theorem dX12_forged_11 : decode cX12_forged 11 = .ok (.invokevirtual 80, 3) := by decide +kernel
theorem dX12_forged_14 : decode cX12_forged 14 = .ok (.ireturn, 1) := by decide +kernel
theorem dX12_forged_15 : decode cX12_forged 15 = .ok (.iconst (-1), 1) := by decide +kernel
theorem dX12_forged_16 : decode cX12_forged 16 = .ok (.istore_n 2, 1) := by decide +kernel
theorem dX12_forged_17 : decode cX12_forged 17 = .ok (.iconst 0, 1) := by decide +kernel
theorem dX12_forged_18 : decode cX12_forged 18 = .ok (.istore_n 3, 1) := by decide +kernel
theorem dX12_forged_19 : decode cX12_forged 19 = .ok (.iload_n 3, 1) := by decide +kernel
theorem dX12_forged_20 : decode cX12_forged 20 = .ok (.iconst 1, 1) := by decide +kernel
theorem dX12_forged_21 : decode cX12_forged 21 = .ok (.aload_n 0, 1) := by decide +kernel
theorem dX12_forged_22 : decode cX12_forged 22 = .ok (.getfield 7, 3) := by decide +kernel
theorem dX12_forged_25 : decode cX12_forged 25 = .ok (.iconst 2, 1) := by decide +kernel
theorem dX12_forged_26 : decode cX12_forged 26 = .ok (.iaload, 1) := by decide +kernel
theorem dX12_forged_27 : decode cX12_forged 27 = .ok (.ishl, 1) := by decide +kernel
theorem dX12_forged_28 : decode cX12_forged 28 = .ok (.if_icmp .ge 135, 3) := by decide +kernel
theorem dX12_forged_31 : decode cX12_forged 31 = .ok (.iload_n 2, 1) := by decide +kernel
theorem dX12_forged_32 : decode cX12_forged 32 = .ok (.iconst (-1), 1) := by decide +kernel
theorem dX12_forged_33 : decode cX12_forged 33 = .ok (.if_icmp .eq 14, 3) := by decide +kernel
theorem dX12_forged_36 : decode cX12_forged 36 = .ok (.iload_n 3, 1) := by decide +kernel
theorem dX12_forged_37 : decode cX12_forged 37 = .ok (.invokestatic 162, 3) := by decide +kernel
theorem dX12_forged_40 : decode cX12_forged 40 = .ok (.iload_n 2, 1) := by decide +kernel
theorem dX12_forged_41 : decode cX12_forged 41 = .ok (.invokestatic 162, 3) := by decide +kernel
theorem dX12_forged_44 : decode cX12_forged 44 = .ok (.if_icmp .ge 7, 3) := by decide +kernel
theorem dX12_forged_47 : decode cX12_forged 47 = .ok (.iconst 1, 1) := by decide +kernel
theorem dX12_forged_48 : decode cX12_forged 48 = .ok (.goto 4, 3) := by decide +kernel
theorem dX12_forged_51 : decode cX12_forged 51 = .ok (.iconst 0, 1) := by decide +kernel
theorem dX12_forged_52 : decode cX12_forged 52 = .ok (.istore 4, 2) := by decide +kernel
theorem dX12_forged_54 : decode cX12_forged 54 = .ok (.iconst 0, 1) := by decide +kernel
theorem dX12_forged_55 : decode cX12_forged 55 = .ok (.istore 5, 2) := by decide +kernel
theorem dX12_forged_57 : decode cX12_forged 57 = .ok (.iload 5, 2) := by decide +kernel
theorem dX12_forged_59 : decode cX12_forged 59 = .ok (.aload_n 0, 1) := by decide +kernel
theorem dX12_forged_60 : decode cX12_forged 60 = .ok (.getfield 7, 3) := by decide +kernel
theorem dX12_forged_63 : decode cX12_forged 63 = .ok (.iconst 2, 1) := by decide +kernel
theorem dX12_forged_64 : decode cX12_forged 64 = .ok (.iaload, 1) := by decide +kernel
theorem dX12_forged_65 : decode cX12_forged 65 = .ok (.if_icmp .ge 81, 3) := by decide +kernel
theorem dX12_forged_68 : decode cX12_forged 68 = .ok (.iload 4, 2) := by decide +kernel
theorem dX12_forged_70 : decode cX12_forged 70 = .ok (.ifCond .eq 76, 3) := by decide +kernel
theorem dX12_forged_73 : decode cX12_forged 73 = .ok (.aload_n 0, 1) := by decide +kernel
theorem dX12_forged_74 : decode cX12_forged 74 = .ok (.getfield 7, 3) := by decide +kernel
theorem dX12_forged_77 : decode cX12_forged 77 = .ok (.bipush 47, 2) := by decide +kernel
theorem dX12_forged_79 : decode cX12_forged 79 = .ok (.iconst 3, 1) := by decide +kernel
theorem dX12_forged_80 : decode cX12_forged 80 = .ok (.iload 5, 2) := by decide +kernel
theorem dX12_forged_82 : decode cX12_forged 82 = .ok (.imul, 1) := by decide +kernel
theorem dX12_forged_83 : decode cX12_forged 83 = .ok (.iadd, 1) := by decide +kernel
theorem dX12_forged_84 : decode cX12_forged 84 = .ok (.iaload, 1) := by decide +kernel
theorem dX12_forged_85 : decode cX12_forged 85 = .ok (.iload_n 1, 1) := by decide +kernel
theorem dX12_forged_86 : decode cX12_forged 86 = .ok (.if_icmp .ne 7, 3) := by decide +kernel
theorem dX12_forged_89 : decode cX12_forged 89 = .ok (.iconst 1, 1) := by decide +kernel
theorem dX12_forged_90 : decode cX12_forged 90 = .ok (.goto 4, 3) := by decide +kernel
theorem dX12_forged_93 : decode cX12_forged 93 = .ok (.iconst 0, 1) := by decide +kernel
theorem dX12_forged_94 : decode cX12_forged 94 = .ok (.istore 6, 2) := by decide +kernel
theorem dX12_forged_96 : decode cX12_forged 96 = .ok (.iload 6, 2) := by decide +kernel
theorem dX12_forged_98 : decode cX12_forged 98 = .ok (.ifCond .eq 26, 3) := by decide +kernel
theorem dX12_forged_101 : decode cX12_forged 101 = .ok (.aload_n 0, 1) := by decide +kernel
theorem dX12_forged_102 : decode cX12_forged 102 = .ok (.iload_n 1, 1) := by decide +kernel
theorem dX12_forged_103 : decode cX12_forged 103 = .ok (.aload_n 0, 1) := by decide +kernel
theorem dX12_forged_104 : decode cX12_forged 104 = .ok (.getfield 7, 3) := by decide +kernel
theorem dX12_forged_107 : decode cX12_forged 107 = .ok (.bipush 47, 2) := by decide +kernel
theorem dX12_forged_109 : decode cX12_forged 109 = .ok (.iconst 3, 1) := by decide +kernel
theorem dX12_forged_110 : decode cX12_forged 110 = .ok (.iload 5, 2) := by decide +kernel
theorem dX12_forged_112 : decode cX12_forged 112 = .ok (.imul, 1) := by decide +kernel
theorem dX12_forged_113 : decode cX12_forged 113 = .ok (.iadd, 1) := by decide +kernel
theorem dX12_forged_114 : decode cX12_forged 114 = .ok (.iconst 1, 1) := by decide +kernel
theorem dX12_forged_115 : decode cX12_forged 115 = .ok (.iadd, 1) := by decide +kernel
theorem dX12_forged_116 : decode cX12_forged 116 = .ok (.iaload, 1) := by decide +kernel
theorem dX12_forged_117 : decode cX12_forged 117 = .ok (.iload_n 3, 1) := by decide +kernel
theorem dX12_forged_118 : decode cX12_forged 118 = .ok (.invokevirtual 190, 3) := by decide +kernel
theorem dX12_forged_121 : decode cX12_forged 121 = .ok (.goto 17, 3) := by decide +kernel
theorem dX12_forged_124 : decode cX12_forged 124 = .ok (.iload_n 3, 1) := by decide +kernel
theorem dX12_forged_125 : decode cX12_forged 125 = .ok (.iload 5, 2) := by decide +kernel
theorem dX12_forged_127 : decode cX12_forged 127 = .ok (.invokestatic 181, 3) := by decide +kernel
theorem dX12_forged_130 : decode cX12_forged 130 = .ok (.ifCond .ne 7, 3) := by decide +kernel
theorem dX12_forged_133 : decode cX12_forged 133 = .ok (.iconst 1, 1) := by decide +kernel
theorem dX12_forged_134 : decode cX12_forged 134 = .ok (.goto 4, 3) := by decide +kernel
theorem dX12_forged_137 : decode cX12_forged 137 = .ok (.iconst 0, 1) := by decide +kernel
theorem dX12_forged_138 : decode cX12_forged 138 = .ok (.istore 4, 2) := by decide +kernel
theorem dX12_forged_140 : decode cX12_forged 140 = .ok (.iinc 5 1, 3) := by decide +kernel
theorem dX12_forged_143 : decode cX12_forged 143 = .ok (.goto (-86), 3) := by decide +kernel
theorem dX12_forged_146 : decode cX12_forged 146 = .ok (.iload 4, 2) := by decide +kernel
theorem dX12_forged_148 : decode cX12_forged 148 = .ok (.ifCond .eq 7, 3) := by decide +kernel
theorem dX12_forged_151 : decode cX12_forged 151 = .ok (.iload_n 3, 1) := by decide +kernel
theorem dX12_forged_152 : decode cX12_forged 152 = .ok (.goto 4, 3) := by decide +kernel
theorem dX12_forged_155 : decode cX12_forged 155 = .ok (.iload_n 2, 1) := by decide +kernel
theorem dX12_forged_156 : decode cX12_forged 156 = .ok (.istore_n 2, 1) := by decide +kernel
theorem dX12_forged_157 : decode cX12_forged 157 = .ok (.iinc 3 1, 3) := by decide +kernel
theorem dX12_forged_160 : decode cX12_forged 160 = .ok (.goto (-141), 3) := by decide +kernel
theorem dX12_forged_163 : decode cX12_forged 163 = .ok (.iload_n 2, 1) := by decide +kernel
theorem dX12_forged_164 : decode cX12_forged 164 = .ok (.ireturn, 1) := by decide +kernel
theorem dX12_is_0 : decode cX12_is 0 = .ok (.aload_n 0, 1) := by decide +kernel
theorem dX12_is_1 : decode cX12_is 1 = .ok (.iload_n 1, 1) := by decide +kernel
theorem dX12_is_2 : decode cX12_is 2 = .ok (.invokevirtual 117, 3) := by decide +kernel
theorem dX12_is_5 : decode cX12_is 5 = .ok (.ifCond .ne 10, 3) := by decide +kernel
theorem dX12_is_8 : decode cX12_is 8 = .ok (.aload_n 0, 1) := by decide +kernel
theorem dX12_is_9 : decode cX12_is 9 = .ok (.bipush (-2), 2) := by decide +kernel
theorem dX12_is_11 : decode cX12_is 11 = .ok (.invokevirtual 80, 3) := by decide +kernel
theorem dX12_is_14 : decode cX12_is 14 = .ok (.ireturn, 1) := by decide +kernel
theorem dX12_is_15 : decode cX12_is 15 = .ok (.iconst 0, 1) := by decide +kernel
theorem dX12_is_16 : decode cX12_is 16 = .ok (.istore_n 2, 1) := by decide +kernel
theorem dX12_is_17 : decode cX12_is 17 = .ok (.iconst 0, 1) := by decide +kernel
theorem dX12_is_18 : decode cX12_is 18 = .ok (.istore_n 3, 1) := by decide +kernel
theorem dX12_is_19 : decode cX12_is 19 = .ok (.iload_n 3, 1) := by decide +kernel
theorem dX12_is_20 : decode cX12_is 20 = .ok (.bipush 6, 2) := by decide +kernel
theorem dX12_is_22 : decode cX12_is 22 = .ok (.if_icmp .ge 104, 3) := by decide +kernel
theorem dX12_is_25 : decode cX12_is 25 = .ok (.iconst 1, 1) := by decide +kernel
theorem dX12_is_26 : decode cX12_is 26 = .ok (.istore 4, 2) := by decide +kernel
theorem dX12_is_28 : decode cX12_is 28 = .ok (.iconst 0, 1) := by decide +kernel
theorem dX12_is_29 : decode cX12_is 29 = .ok (.istore 5, 2) := by decide +kernel
theorem dX12_is_31 : decode cX12_is 31 = .ok (.iload 5, 2) := by decide +kernel
theorem dX12_is_33 : decode cX12_is 33 = .ok (.aload_n 0, 1) := by decide +kernel
theorem dX12_is_34 : decode cX12_is 34 = .ok (.getfield 7, 3) := by decide +kernel
theorem dX12_is_37 : decode cX12_is 37 = .ok (.iconst 3, 1) := by decide +kernel
theorem dX12_is_38 : decode cX12_is 38 = .ok (.iaload, 1) := by decide +kernel
theorem dX12_is_39 : decode cX12_is 39 = .ok (.if_icmp .ge 66, 3) := by decide +kernel
theorem dX12_is_42 : decode cX12_is 42 = .ok (.bipush 65, 2) := by decide +kernel
theorem dX12_is_44 : decode cX12_is 44 = .ok (.iconst 3, 1) := by decide +kernel
theorem dX12_is_45 : decode cX12_is 45 = .ok (.iload 5, 2) := by decide +kernel
theorem dX12_is_47 : decode cX12_is 47 = .ok (.imul, 1) := by decide +kernel
theorem dX12_is_48 : decode cX12_is 48 = .ok (.iadd, 1) := by decide +kernel
theorem dX12_is_49 : decode cX12_is 49 = .ok (.istore 6, 2) := by decide +kernel
theorem dX12_is_51 : decode cX12_is 51 = .ok (.iload 4, 2) := by decide +kernel
theorem dX12_is_53 : decode cX12_is 53 = .ok (.ifCond .eq 43, 3) := by decide +kernel
theorem dX12_is_56 : decode cX12_is 56 = .ok (.aload_n 0, 1) := by decide +kernel
theorem dX12_is_57 : decode cX12_is 57 = .ok (.getfield 7, 3) := by decide +kernel
theorem dX12_is_60 : decode cX12_is 60 = .ok (.iload 6, 2) := by decide +kernel
theorem dX12_is_62 : decode cX12_is 62 = .ok (.iaload, 1) := by decide +kernel
theorem dX12_is_63 : decode cX12_is 63 = .ok (.iload_n 1, 1) := by decide +kernel
theorem dX12_is_64 : decode cX12_is 64 = .ok (.if_icmp .ne 28, 3) := by decide +kernel
theorem dX12_is_67 : decode cX12_is 67 = .ok (.iload_n 3, 1) := by decide +kernel
theorem dX12_is_68 : decode cX12_is 68 = .ok (.aload_n 0, 1) := by decide +kernel
theorem dX12_is_69 : decode cX12_is 69 = .ok (.getfield 7, 3) := by decide +kernel
theorem dX12_is_72 : decode cX12_is 72 = .ok (.iload 6, 2) := by decide +kernel
theorem dX12_is_74 : decode cX12_is 74 = .ok (.iconst 1, 1) := by decide +kernel
theorem dX12_is_75 : decode cX12_is 75 = .ok (.iadd, 1) := by decide +kernel
theorem dX12_is_76 : decode cX12_is 76 = .ok (.iaload, 1) := by decide +kernel
theorem dX12_is_77 : decode cX12_is 77 = .ok (.invokestatic 108, 3) := by decide +kernel
theorem dX12_is_80 : decode cX12_is 80 = .ok (.aload_n 0, 1) := by decide +kernel
theorem dX12_is_81 : decode cX12_is 81 = .ok (.getfield 7, 3) := by decide +kernel
theorem dX12_is_84 : decode cX12_is 84 = .ok (.iload 6, 2) := by decide +kernel
theorem dX12_is_86 : decode cX12_is 86 = .ok (.iconst 2, 1) := by decide +kernel
theorem dX12_is_87 : decode cX12_is 87 = .ok (.iadd, 1) := by decide +kernel
theorem dX12_is_88 : decode cX12_is 88 = .ok (.iaload, 1) := by decide +kernel
theorem dX12_is_89 : decode cX12_is 89 = .ok (.if_icmp .ne 7, 3) := by decide +kernel
theorem dX12_is_92 : decode cX12_is 92 = .ok (.iconst 1, 1) := by decide +kernel
theorem dX12_is_93 : decode cX12_is 93 = .ok (.goto 4, 3) := by decide +kernel
theorem dX12_is_96 : decode cX12_is 96 = .ok (.iconst 0, 1) := by decide +kernel
theorem dX12_is_97 : decode cX12_is 97 = .ok (.istore 4, 2) := by decide +kernel
theorem dX12_is_99 : decode cX12_is 99 = .ok (.iinc 5 1, 3) := by decide +kernel
theorem dX12_is_102 : decode cX12_is 102 = .ok (.goto (-71), 3) := by decide +kernel
theorem dX12_is_105 : decode cX12_is 105 = .ok (.iload_n 2, 1) := by decide +kernel
theorem dX12_is_106 : decode cX12_is 106 = .ok (.iload 4, 2) := by decide +kernel
theorem dX12_is_108 : decode cX12_is 108 = .ok (.ifCond .eq 9, 3) := by decide +kernel
theorem dX12_is_111 : decode cX12_is 111 = .ok (.iconst 1, 1) := by decide +kernel
theorem dX12_is_112 : decode cX12_is 112 = .ok (.iload_n 3, 1) := by decide +kernel
theorem dX12_is_113 : decode cX12_is 113 = .ok (.ishl, 1) := by decide +kernel
theorem dX12_is_114 : decode cX12_is 114 = .ok (.goto 4, 3) := by decide +kernel
theorem dX12_is_117 : decode cX12_is 117 = .ok (.iconst 0, 1) := by decide +kernel
theorem dX12_is_118 : decode cX12_is 118 = .ok (.ior, 1) := by decide +kernel
theorem dX12_is_119 : decode cX12_is 119 = .ok (.istore_n 2, 1) := by decide +kernel
theorem dX12_is_120 : decode cX12_is 120 = .ok (.iinc 3 1, 3) := by decide +kernel
theorem dX12_is_123 : decode cX12_is 123 = .ok (.goto (-104), 3) := by decide +kernel
theorem dX12_is_126 : decode cX12_is 126 = .ok (.iload_n 2, 1) := by decide +kernel
theorem dX12_is_127 : decode cX12_is 127 = .ok (.ireturn, 1) := by decide +kernel
theorem dX12_sell_0 : decode cX12_sell 0 = .ok (.aload_n 0, 1) := by decide +kernel
theorem dX12_sell_1 : decode cX12_sell 1 = .ok (.iload_n 1, 1) := by decide +kernel
theorem dX12_sell_2 : decode cX12_sell 2 = .ok (.invokevirtual 117, 3) := by decide +kernel
theorem dX12_sell_5 : decode cX12_sell 5 = .ok (.ifCond .eq 24, 3) := by decide +kernel
theorem dX12_sell_8 : decode cX12_sell 8 = .ok (.aload_n 0, 1) := by decide +kernel
theorem dX12_sell_9 : decode cX12_sell 9 = .ok (.iload_n 2, 1) := by decide +kernel
theorem dX12_sell_10 : decode cX12_sell 10 = .ok (.invokevirtual 117, 3) := by decide +kernel
theorem dX12_sell_13 : decode cX12_sell 13 = .ok (.ifCond .eq 16, 3) := by decide +kernel
theorem dX12_sell_16 : decode cX12_sell 16 = .ok (.iload_n 1, 1) := by decide +kernel
theorem dX12_sell_17 : decode cX12_sell 17 = .ok (.iload_n 2, 1) := by decide +kernel
theorem dX12_sell_18 : decode cX12_sell 18 = .ok (.if_icmp .eq 11, 3) := by decide +kernel
theorem dX12_sell_21 : decode cX12_sell 21 = .ok (.aload_n 0, 1) := by decide +kernel
theorem dX12_sell_22 : decode cX12_sell 22 = .ok (.iload_n 3, 1) := by decide +kernel
theorem dX12_sell_23 : decode cX12_sell 23 = .ok (.invokevirtual 114, 3) := by decide +kernel
theorem dX12_sell_26 : decode cX12_sell 26 = .ok (.ifCond .ne 10, 3) := by decide +kernel
theorem dX12_sell_29 : decode cX12_sell 29 = .ok (.aload_n 0, 1) := by decide +kernel
theorem dX12_sell_30 : decode cX12_sell 30 = .ok (.bipush (-2), 2) := by decide +kernel
theorem dX12_sell_32 : decode cX12_sell 32 = .ok (.invokevirtual 80, 3) := by decide +kernel
theorem dX12_sell_35 : decode cX12_sell 35 = .ok (.ireturn, 1) := by decide +kernel
theorem dX12_sell_36 : decode cX12_sell 36 = .ok (.aload_n 0, 1) := by decide +kernel
theorem dX12_sell_37 : decode cX12_sell 37 = .ok (.iload_n 3, 1) := by decide +kernel
theorem dX12_sell_38 : decode cX12_sell 38 = .ok (.invokevirtual 134, 3) := by decide +kernel
theorem dX12_sell_41 : decode cX12_sell 41 = .ok (.ifCond .ne 8, 3) := by decide +kernel
theorem dX12_sell_44 : decode cX12_sell 44 = .ok (.aload_n 0, 1) := by decide +kernel
theorem dX12_sell_45 : decode cX12_sell 45 = .ok (.invokevirtual 124, 3) := by decide +kernel
theorem dX12_sell_48 : decode cX12_sell 48 = .ok (.ireturn, 1) := by decide +kernel
theorem dX12_sell_49 : decode cX12_sell 49 = .ok (.iconst 0, 1) := by decide +kernel
theorem dX12_sell_50 : decode cX12_sell 50 = .ok (.istore 4, 2) := by decide +kernel
theorem dX12_sell_52 : decode cX12_sell 52 = .ok (.iload 4, 2) := by decide +kernel
theorem dX12_sell_54 : decode cX12_sell 54 = .ok (.iconst 4, 1) := by decide +kernel
theorem dX12_sell_55 : decode cX12_sell 55 = .ok (.if_icmp .ge 126, 3) := by decide +kernel
theorem dX12_sell_58 : decode cX12_sell 58 = .ok (.iload 4, 2) := by decide +kernel
theorem dX12_sell_60 : decode cX12_sell 60 = .ok (.iconst 1, 1) := by decide +kernel
theorem dX12_sell_61 : decode cX12_sell 61 = .ok (.iand, 1) := by decide +kernel
theorem dX12_sell_62 : decode cX12_sell 62 = .ok (.iconst 1, 1) := by decide +kernel
theorem dX12_sell_63 : decode cX12_sell 63 = .ok (.if_icmp .ne 19, 3) := by decide +kernel
theorem dX12_sell_66 : decode cX12_sell 66 = .ok (.aload_n 0, 1) := by decide +kernel
theorem dX12_sell_67 : decode cX12_sell 67 = .ok (.getfield 7, 3) := by decide +kernel
theorem dX12_sell_70 : decode cX12_sell 70 = .ok (.iload_n 3, 1) := by decide +kernel
theorem dX12_sell_71 : decode cX12_sell 71 = .ok (.iload_n 1, 1) := by decide +kernel
theorem dX12_sell_72 : decode cX12_sell 72 = .ok (.invokestatic 120, 3) := by decide +kernel
theorem dX12_sell_75 : decode cX12_sell 75 = .ok (.ifCond .eq 7, 3) := by decide +kernel
theorem dX12_sell_78 : decode cX12_sell 78 = .ok (.iconst 1, 1) := by decide +kernel
theorem dX12_sell_79 : decode cX12_sell 79 = .ok (.goto 4, 3) := by decide +kernel
theorem dX12_sell_82 : decode cX12_sell 82 = .ok (.iconst 0, 1) := by decide +kernel
theorem dX12_sell_83 : decode cX12_sell 83 = .ok (.istore 5, 2) := by decide +kernel
theorem dX12_sell_85 : decode cX12_sell 85 = .ok (.iload 4, 2) := by decide +kernel
theorem dX12_sell_87 : decode cX12_sell 87 = .ok (.iconst 1, 1) := by decide +kernel
theorem dX12_sell_88 : decode cX12_sell 88 = .ok (.if_icmp .le 19, 3) := by decide +kernel
theorem dX12_sell_91 : decode cX12_sell 91 = .ok (.aload_n 0, 1) := by decide +kernel
theorem dX12_sell_92 : decode cX12_sell 92 = .ok (.getfield 7, 3) := by decide +kernel
theorem dX12_sell_95 : decode cX12_sell 95 = .ok (.iload_n 3, 1) := by decide +kernel
theorem dX12_sell_96 : decode cX12_sell 96 = .ok (.iload_n 2, 1) := by decide +kernel
theorem dX12_sell_97 : decode cX12_sell 97 = .ok (.invokestatic 120, 3) := by decide +kernel
theorem dX12_sell_100 : decode cX12_sell 100 = .ok (.ifCond .eq 7, 3) := by decide +kernel
theorem dX12_sell_103 : decode cX12_sell 103 = .ok (.iconst 1, 1) := by decide +kernel
theorem dX12_sell_104 : decode cX12_sell 104 = .ok (.goto 4, 3) := by decide +kernel
theorem dX12_sell_107 : decode cX12_sell 107 = .ok (.iconst 0, 1) := by decide +kernel
theorem dX12_sell_108 : decode cX12_sell 108 = .ok (.istore 6, 2) := by decide +kernel
theorem dX12_sell_110 : decode cX12_sell 110 = .ok (.iload 5, 2) := by decide +kernel
theorem dX12_sell_112 : decode cX12_sell 112 = .ok (.ifCond .eq 20, 3) := by decide +kernel
theorem dX12_sell_115 : decode cX12_sell 115 = .ok (.iload 6, 2) := by decide +kernel
theorem dX12_sell_117 : decode cX12_sell 117 = .ok (.ifCond .eq 15, 3) := by decide +kernel
theorem dX12_sell_120 : decode cX12_sell 120 = .ok (.aload_n 0, 1) := by decide +kernel
theorem dX12_sell_121 : decode cX12_sell 121 = .ok (.iload_n 3, 1) := by decide +kernel
theorem dX12_sell_122 : decode cX12_sell 122 = .ok (.invokevirtual 137, 3) := by decide +kernel
theorem dX12_sell_125 : decode cX12_sell 125 = .ok (.iconst 2, 1) := by decide +kernel
theorem dX12_sell_126 : decode cX12_sell 126 = .ok (.idiv, 1) := by decide +kernel
theorem dX12_sell_127 : decode cX12_sell 127 = .ok (.iconst 1, 1) := by decide +kernel
theorem dX12_sell_128 : decode cX12_sell 128 = .ok (.isub, 1) := by decide +kernel
theorem dX12_sell_129 : decode cX12_sell 129 = .ok (.goto 8, 3) := by decide +kernel
theorem dX12_sell_132 : decode cX12_sell 132 = .ok (.aload_n 0, 1) := by decide +kernel
theorem dX12_sell_133 : decode cX12_sell 133 = .ok (.iload_n 3, 1) := by decide +kernel
theorem dX12_sell_134 : decode cX12_sell 134 = .ok (.invokevirtual 137, 3) := by decide +kernel
theorem dX12_sell_137 : decode cX12_sell 137 = .ok (.istore 7, 2) := by decide +kernel
theorem dX12_sell_139 : decode cX12_sell 139 = .ok (.aload_n 0, 1) := by decide +kernel
theorem dX12_sell_140 : decode cX12_sell 140 = .ok (.getfield 39, 3) := by decide +kernel
theorem dX12_sell_143 : decode cX12_sell 143 = .ok (.iload 4, 2) := by decide +kernel
theorem dX12_sell_145 : decode cX12_sell 145 = .ok (.iload 5, 2) := by decide +kernel
theorem dX12_sell_147 : decode cX12_sell 147 = .ok (.ifCond .eq 8, 3) := by decide +kernel
theorem dX12_sell_150 : decode cX12_sell 150 = .ok (.iload 7, 2) := by decide +kernel
theorem dX12_sell_152 : decode cX12_sell 152 = .ok (.goto 4, 3) := by decide +kernel
theorem dX12_sell_155 : decode cX12_sell 155 = .ok (.iconst 0, 1) := by decide +kernel
theorem dX12_sell_156 : decode cX12_sell 156 = .ok (.iastore, 1) := by decide +kernel
theorem dX12_sell_157 : decode cX12_sell 157 = .ok (.aload_n 0, 1) := by decide +kernel
theorem dX12_sell_158 : decode cX12_sell 158 = .ok (.getfield 42, 3) := by decide +kernel
theorem dX12_sell_161 : decode cX12_sell 161 = .ok (.iload 4, 2) := by decide +kernel
theorem dX12_sell_163 : decode cX12_sell 163 = .ok (.iload 6, 2) := by decide +kernel
theorem dX12_sell_165 : decode cX12_sell 165 = .ok (.ifCond .eq 8, 3) := by decide +kernel
theorem dX12_sell_168 : decode cX12_sell 168 = .ok (.iload 7, 2) := by decide +kernel
theorem dX12_sell_170 : decode cX12_sell 170 = .ok (.goto 4, 3) := by decide +kernel
theorem dX12_sell_173 : decode cX12_sell 173 = .ok (.iconst 0, 1) := by decide +kernel
theorem dX12_sell_174 : decode cX12_sell 174 = .ok (.iastore, 1) := by decide +kernel
theorem dX12_sell_175 : decode cX12_sell 175 = .ok (.iinc 4 1, 3) := by decide +kernel
theorem dX12_sell_178 : decode cX12_sell 178 = .ok (.goto (-126), 3) := by decide +kernel
theorem dX12_sell_181 : decode cX12_sell 181 = .ok (.iconst 0, 1) := by decide +kernel
theorem dX12_sell_182 : decode cX12_sell 182 = .ok (.istore 4, 2) := by decide +kernel
theorem dX12_sell_184 : decode cX12_sell 184 = .ok (.iconst 0, 1) := by decide +kernel
theorem dX12_sell_185 : decode cX12_sell 185 = .ok (.istore 5, 2) := by decide +kernel
theorem dX12_sell_187 : decode cX12_sell 187 = .ok (.iload 5, 2) := by decide +kernel
theorem dX12_sell_189 : decode cX12_sell 189 = .ok (.iconst 4, 1) := by decide +kernel
theorem dX12_sell_190 : decode cX12_sell 190 = .ok (.if_icmp .ge 72, 3) := by decide +kernel
theorem dX12_sell_193 : decode cX12_sell 193 = .ok (.aload_n 0, 1) := by decide +kernel
theorem dX12_sell_194 : decode cX12_sell 194 = .ok (.getfield 39, 3) := by decide +kernel
theorem dX12_sell_197 : decode cX12_sell 197 = .ok (.iload 5, 2) := by decide +kernel
theorem dX12_sell_199 : decode cX12_sell 199 = .ok (.iaload, 1) := by decide +kernel
theorem dX12_sell_200 : decode cX12_sell 200 = .ok (.aload_n 0, 1) := by decide +kernel
theorem dX12_sell_201 : decode cX12_sell 201 = .ok (.getfield 39, 3) := by decide +kernel
theorem dX12_sell_204 : decode cX12_sell 204 = .ok (.iload 5, 2) := by decide +kernel
theorem dX12_sell_206 : decode cX12_sell 206 = .ok (.iconst 1, 1) := by decide +kernel
theorem dX12_sell_207 : decode cX12_sell 207 = .ok (.ixor, 1) := by decide +kernel
theorem dX12_sell_208 : decode cX12_sell 208 = .ok (.iaload, 1) := by decide +kernel
theorem dX12_sell_209 : decode cX12_sell 209 = .ok (.if_icmp .lt 26, 3) := by decide +kernel
theorem dX12_sell_212 : decode cX12_sell 212 = .ok (.aload_n 0, 1) := by decide +kernel
theorem dX12_sell_213 : decode cX12_sell 213 = .ok (.getfield 42, 3) := by decide +kernel
theorem dX12_sell_216 : decode cX12_sell 216 = .ok (.iload 5, 2) := by decide +kernel
theorem dX12_sell_218 : decode cX12_sell 218 = .ok (.iaload, 1) := by decide +kernel
theorem dX12_sell_219 : decode cX12_sell 219 = .ok (.aload_n 0, 1) := by decide +kernel
theorem dX12_sell_220 : decode cX12_sell 220 = .ok (.getfield 42, 3) := by decide +kernel
theorem dX12_sell_223 : decode cX12_sell 223 = .ok (.iload 5, 2) := by decide +kernel
theorem dX12_sell_225 : decode cX12_sell 225 = .ok (.iconst 2, 1) := by decide +kernel
theorem dX12_sell_226 : decode cX12_sell 226 = .ok (.ixor, 1) := by decide +kernel
theorem dX12_sell_227 : decode cX12_sell 227 = .ok (.iaload, 1) := by decide +kernel
theorem dX12_sell_228 : decode cX12_sell 228 = .ok (.if_icmp .lt 7, 3) := by decide +kernel
theorem dX12_sell_231 : decode cX12_sell 231 = .ok (.iconst 1, 1) := by decide +kernel
theorem dX12_sell_232 : decode cX12_sell 232 = .ok (.goto 4, 3) := by decide +kernel
theorem dX12_sell_235 : decode cX12_sell 235 = .ok (.iconst 0, 1) := by decide +kernel
theorem dX12_sell_236 : decode cX12_sell 236 = .ok (.istore 6, 2) := by decide +kernel
theorem dX12_sell_238 : decode cX12_sell 238 = .ok (.iload 4, 2) := by decide +kernel
theorem dX12_sell_240 : decode cX12_sell 240 = .ok (.iload 6, 2) := by decide +kernel
theorem dX12_sell_242 : decode cX12_sell 242 = .ok (.ifCond .eq 10, 3) := by decide +kernel
theorem dX12_sell_245 : decode cX12_sell 245 = .ok (.iconst 1, 1) := by decide +kernel
theorem dX12_sell_246 : decode cX12_sell 246 = .ok (.iload 5, 2) := by decide +kernel
theorem dX12_sell_248 : decode cX12_sell 248 = .ok (.ishl, 1) := by decide +kernel
theorem dX12_sell_249 : decode cX12_sell 249 = .ok (.goto 4, 3) := by decide +kernel
theorem dX12_sell_252 : decode cX12_sell 252 = .ok (.iconst 0, 1) := by decide +kernel
theorem dX12_sell_253 : decode cX12_sell 253 = .ok (.ior, 1) := by decide +kernel
theorem dX12_sell_254 : decode cX12_sell 254 = .ok (.istore 4, 2) := by decide +kernel
theorem dX12_sell_256 : decode cX12_sell 256 = .ok (.iinc 5 1, 3) := by decide +kernel
theorem dX12_sell_259 : decode cX12_sell 259 = .ok (.goto (-72), 3) := by decide +kernel
theorem dX12_sell_262 : decode cX12_sell 262 = .ok (.iload 4, 2) := by decide +kernel
theorem dX12_sell_264 : decode cX12_sell 264 = .ok (.ireturn, 1) := by decide +kernel
theorem dX12_found_0 : decode cX12_found 0 = .ok (.iload_n 1, 1) := by decide +kernel
theorem dX12_found_1 : decode cX12_found 1 = .ok (.i2l, 1) := by decide +kernel
theorem dX12_found_2 : decode cX12_found 2 = .ok (.lconst 0, 1) := by decide +kernel
theorem dX12_found_3 : decode cX12_found 3 = .ok (.ldc2_w 193, 3) := by decide +kernel
theorem dX12_found_6 : decode cX12_found 6 = .ok (.invokestatic 65, 3) := by decide +kernel
theorem dX12_found_9 : decode cX12_found 9 = .ok (.ifCond .ne 10, 3) := by decide +kernel
theorem dX12_found_12 : decode cX12_found 12 = .ok (.aload_n 0, 1) := by decide +kernel
theorem dX12_found_13 : decode cX12_found 13 = .ok (.bipush (-2), 2) := by decide +kernel
theorem dX12_found_15 : decode cX12_found 15 = .ok (.invokevirtual 80, 3) := by decide +kernel
theorem dX12_found_18 : decode cX12_found 18 = .ok (.ireturn, 1) := by decide +kernel
theorem dX12_found_19 : decode cX12_found 19 = .ok (.iconst 0, 1) := by decide +kernel
theorem dX12_found_20 : decode cX12_found 20 = .ok (.istore_n 2, 1) := by decide +kernel
theorem dX12_found_21 : decode cX12_found 21 = .ok (.iconst 0, 1) := by decide +kernel
theorem dX12_found_22 : decode cX12_found 22 = .ok (.istore_n 3, 1) := by decide +kernel
theorem dX12_found_23 : decode cX12_found 23 = .ok (.iload_n 3, 1) := by decide +kernel
theorem dX12_found_24 : decode cX12_found 24 = .ok (.aload_n 0, 1) := by decide +kernel
theorem dX12_found_25 : decode cX12_found 25 = .ok (.invokevirtual 69, 3) := by decide +kernel
theorem dX12_found_28 : decode cX12_found 28 = .ok (.if_icmp .ge 41, 3) := by decide +kernel
theorem dX12_found_31 : decode cX12_found 31 = .ok (.iload_n 2, 1) := by decide +kernel
theorem dX12_found_32 : decode cX12_found 32 = .ok (.aload_n 0, 1) := by decide +kernel
theorem dX12_found_33 : decode cX12_found 33 = .ok (.iload_n 3, 1) := by decide +kernel
theorem dX12_found_34 : decode cX12_found 34 = .ok (.invokevirtual 134, 3) := by decide +kernel
theorem dX12_found_37 : decode cX12_found 37 = .ok (.ifCond .ne 23, 3) := by decide +kernel
theorem dX12_found_40 : decode cX12_found 40 = .ok (.aload_n 0, 1) := by decide +kernel
theorem dX12_found_41 : decode cX12_found 41 = .ok (.getfield 7, 3) := by decide +kernel
theorem dX12_found_44 : decode cX12_found 44 = .ok (.iconst 5, 1) := by decide +kernel
theorem dX12_found_45 : decode cX12_found 45 = .ok (.iload_n 3, 1) := by decide +kernel
theorem dX12_found_46 : decode cX12_found 46 = .ok (.iadd, 1) := by decide +kernel
theorem dX12_found_47 : decode cX12_found 47 = .ok (.iaload, 1) := by decide +kernel
theorem dX12_found_48 : decode cX12_found 48 = .ok (.iconst 5, 1) := by decide +kernel
theorem dX12_found_49 : decode cX12_found 49 = .ok (.if_icmp .eq 11, 3) := by decide +kernel
theorem dX12_found_52 : decode cX12_found 52 = .ok (.aload_n 0, 1) := by decide +kernel
theorem dX12_found_53 : decode cX12_found 53 = .ok (.iload_n 3, 1) := by decide +kernel
theorem dX12_found_54 : decode cX12_found 54 = .ok (.invokevirtual 137, 3) := by decide +kernel
theorem dX12_found_57 : decode cX12_found 57 = .ok (.goto 4, 3) := by decide +kernel
theorem dX12_found_60 : decode cX12_found 60 = .ok (.iconst 0, 1) := by decide +kernel
theorem dX12_found_61 : decode cX12_found 61 = .ok (.iadd, 1) := by decide +kernel
theorem dX12_found_62 : decode cX12_found 62 = .ok (.istore_n 2, 1) := by decide +kernel
theorem dX12_found_63 : decode cX12_found 63 = .ok (.iinc 3 1, 3) := by decide +kernel
theorem dX12_found_66 : decode cX12_found 66 = .ok (.goto (-43), 3) := by decide +kernel
theorem dX12_found_69 : decode cX12_found 69 = .ok (.aload_n 0, 1) := by decide +kernel
theorem dX12_found_70 : decode cX12_found 70 = .ok (.iload_n 2, 1) := by decide +kernel
theorem dX12_found_71 : decode cX12_found 71 = .ok (.i2l, 1) := by decide +kernel
theorem dX12_found_72 : decode cX12_found 72 = .ok (.iload_n 1, 1) := by decide +kernel
theorem dX12_found_73 : decode cX12_found 73 = .ok (.i2l, 1) := by decide +kernel
theorem dX12_found_74 : decode cX12_found 74 = .ok (.lmul, 1) := by decide +kernel
theorem dX12_found_75 : decode cX12_found 75 = .ok (.ldc2_w 193, 3) := by decide +kernel
theorem dX12_found_78 : decode cX12_found 78 = .ok (.invokevirtual 171, 3) := by decide +kernel
theorem dX12_found_81 : decode cX12_found 81 = .ok (.iconst 1, 1) := by decide +kernel
theorem dX12_found_82 : decode cX12_found 82 = .ok (.ireturn, 1) := by decide +kernel
theorem dX12_sessions_0 : decode cX12_sessions 0 = .ok (.iload_n 1, 1) := by decide +kernel
theorem dX12_sessions_1 : decode cX12_sessions 1 = .ok (.i2l, 1) := by decide +kernel
theorem dX12_sessions_2 : decode cX12_sessions 2 = .ok (.lconst 0, 1) := by decide +kernel
theorem dX12_sessions_3 : decode cX12_sessions 3 = .ok (.ldc2_w 195, 3) := by decide +kernel
theorem dX12_sessions_6 : decode cX12_sessions 6 = .ok (.invokestatic 65, 3) := by decide +kernel
theorem dX12_sessions_9 : decode cX12_sessions 9 = .ok (.ifCond .eq 15, 3) := by decide +kernel
theorem dX12_sessions_12 : decode cX12_sessions 12 = .ok (.iload_n 2, 1) := by decide +kernel
theorem dX12_sessions_13 : decode cX12_sessions 13 = .ok (.i2l, 1) := by decide +kernel
theorem dX12_sessions_14 : decode cX12_sessions 14 = .ok (.lconst 0, 1) := by decide +kernel
theorem dX12_sessions_15 : decode cX12_sessions 15 = .ok (.ldc2_w 197, 3) := by decide +kernel
theorem dX12_sessions_18 : decode cX12_sessions 18 = .ok (.invokestatic 65, 3) := by decide +kernel
theorem dX12_sessions_21 : decode cX12_sessions 21 = .ok (.ifCond .ne 10, 3) := by decide +kernel
theorem dX12_sessions_24 : decode cX12_sessions 24 = .ok (.aload_n 0, 1) := by decide +kernel
theorem dX12_sessions_25 : decode cX12_sessions 25 = .ok (.bipush (-2), 2) := by decide +kernel
theorem dX12_sessions_27 : decode cX12_sessions 27 = .ok (.invokevirtual 80, 3) := by decide +kernel
theorem dX12_sessions_30 : decode cX12_sessions 30 = .ok (.ireturn, 1) := by decide +kernel
theorem dX12_sessions_31 : decode cX12_sessions 31 = .ok (.iload_n 1, 1) := by decide +kernel
theorem dX12_sessions_32 : decode cX12_sessions 32 = .ok (.i2l, 1) := by decide +kernel
theorem dX12_sessions_33 : decode cX12_sessions 33 = .ok (.lstore_n 3, 1) := by decide +kernel
theorem dX12_sessions_34 : decode cX12_sessions 34 = .ok (.iconst 0, 1) := by decide +kernel
theorem dX12_sessions_35 : decode cX12_sessions 35 = .ok (.istore 5, 2) := by decide +kernel
theorem dX12_sessions_37 : decode cX12_sessions 37 = .ok (.iconst 0, 1) := by decide +kernel
theorem dX12_sessions_38 : decode cX12_sessions 38 = .ok (.istore 6, 2) := by decide +kernel
theorem dX12_sessions_40 : decode cX12_sessions 40 = .ok (.iload 6, 2) := by decide +kernel
theorem dX12_sessions_42 : decode cX12_sessions 42 = .ok (.bipush 83, 2) := by decide +kernel
theorem dX12_sessions_44 : decode cX12_sessions 44 = .ok (.if_icmp .ge 23, 3) := by decide +kernel
theorem dX12_sessions_47 : decode cX12_sessions 47 = .ok (.aload_n 0, 1) := by decide +kernel
theorem dX12_sessions_48 : decode cX12_sessions 48 = .ok (.getfield 45, 3) := by decide +kernel
theorem dX12_sessions_51 : decode cX12_sessions 51 = .ok (.iload 6, 2) := by decide +kernel
theorem dX12_sessions_53 : decode cX12_sessions 53 = .ok (.aload_n 0, 1) := by decide +kernel
theorem dX12_sessions_54 : decode cX12_sessions 54 = .ok (.getfield 7, 3) := by decide +kernel
theorem dX12_sessions_57 : decode cX12_sessions 57 = .ok (.iload 6, 2) := by decide +kernel
theorem dX12_sessions_59 : decode cX12_sessions 59 = .ok (.iaload, 1) := by decide +kernel
theorem dX12_sessions_60 : decode cX12_sessions 60 = .ok (.iastore, 1) := by decide +kernel
theorem dX12_sessions_61 : decode cX12_sessions 61 = .ok (.iinc 6 1, 3) := by decide +kernel
theorem dX12_sessions_64 : decode cX12_sessions 64 = .ok (.goto (-24), 3) := by decide +kernel
theorem dX12_sessions_67 : decode cX12_sessions 67 = .ok (.iconst 0, 1) := by decide +kernel
theorem dX12_sessions_68 : decode cX12_sessions 68 = .ok (.istore 6, 2) := by decide +kernel
theorem dX12_sessions_70 : decode cX12_sessions 70 = .ok (.iload 6, 2) := by decide +kernel
theorem dX12_sessions_72 : decode cX12_sessions 72 = .ok (.iload_n 2, 1) := by decide +kernel
theorem dX12_sessions_73 : decode cX12_sessions 73 = .ok (.if_icmp .ge 130, 3) := by decide +kernel
theorem dX12_sessions_76 : decode cX12_sessions 76 = .ok (.lload_n 3, 1) := by decide +kernel
theorem dX12_sessions_77 : decode cX12_sessions 77 = .ok (.ldc2_w 199, 3) := by decide +kernel
theorem dX12_sessions_80 : decode cX12_sessions 80 = .ok (.lmul, 1) := by decide +kernel
theorem dX12_sessions_81 : decode cX12_sessions 81 = .ok (.ldc2_w 201, 3) := by decide +kernel
theorem dX12_sessions_84 : decode cX12_sessions 84 = .ok (.ladd, 1) := by decide +kernel
theorem dX12_sessions_85 : decode cX12_sessions 85 = .ok (.ldc2_w 203, 3) := by decide +kernel
theorem dX12_sessions_88 : decode cX12_sessions 88 = .ok (.lrem, 1) := by decide +kernel
theorem dX12_sessions_89 : decode cX12_sessions 89 = .ok (.lstore_n 3, 1) := by decide +kernel
theorem dX12_sessions_90 : decode cX12_sessions 90 = .ok (.lload_n 3, 1) := by decide +kernel
theorem dX12_sessions_91 : decode cX12_sessions 91 = .ok (.ldc2_w 205, 3) := by decide +kernel
theorem dX12_sessions_94 : decode cX12_sessions 94 = .ok (.ldiv, 1) := by decide +kernel
theorem dX12_sessions_95 : decode cX12_sessions 95 = .ok (.ldc2_w 207, 3) := by decide +kernel
theorem dX12_sessions_98 : decode cX12_sessions 98 = .ok (.lrem, 1) := by decide +kernel
theorem dX12_sessions_99 : decode cX12_sessions 99 = .ok (.l2i, 1) := by decide +kernel
theorem dX12_sessions_100 : decode cX12_sessions 100 = .ok (.istore 7, 2) := by decide +kernel
theorem dX12_sessions_102 : decode cX12_sessions 102 = .ok (.lload_n 3, 1) := by decide +kernel
theorem dX12_sessions_103 : decode cX12_sessions 103 = .ok (.ldc2_w 199, 3) := by decide +kernel
theorem dX12_sessions_106 : decode cX12_sessions 106 = .ok (.lmul, 1) := by decide +kernel
theorem dX12_sessions_107 : decode cX12_sessions 107 = .ok (.ldc2_w 201, 3) := by decide +kernel
theorem dX12_sessions_110 : decode cX12_sessions 110 = .ok (.ladd, 1) := by decide +kernel
theorem dX12_sessions_111 : decode cX12_sessions 111 = .ok (.ldc2_w 203, 3) := by decide +kernel
theorem dX12_sessions_114 : decode cX12_sessions 114 = .ok (.lrem, 1) := by decide +kernel
theorem dX12_sessions_115 : decode cX12_sessions 115 = .ok (.lstore_n 3, 1) := by decide +kernel
theorem dX12_sessions_116 : decode cX12_sessions 116 = .ok (.lload_n 3, 1) := by decide +kernel
theorem dX12_sessions_117 : decode cX12_sessions 117 = .ok (.ldc2_w 205, 3) := by decide +kernel
theorem dX12_sessions_120 : decode cX12_sessions 120 = .ok (.ldiv, 1) := by decide +kernel
theorem dX12_sessions_121 : decode cX12_sessions 121 = .ok (.ldc2_w 74, 3) := by decide +kernel
theorem dX12_sessions_124 : decode cX12_sessions 124 = .ok (.lrem, 1) := by decide +kernel
theorem dX12_sessions_125 : decode cX12_sessions 125 = .ok (.l2i, 1) := by decide +kernel
theorem dX12_sessions_126 : decode cX12_sessions 126 = .ok (.istore 8, 2) := by decide +kernel
theorem dX12_sessions_128 : decode cX12_sessions 128 = .ok (.aload_n 0, 1) := by decide +kernel
theorem dX12_sessions_129 : decode cX12_sessions 129 = .ok (.iload 7, 2) := by decide +kernel
theorem dX12_sessions_131 : decode cX12_sessions 131 = .ok (.invokevirtual 114, 3) := by decide +kernel
theorem dX12_sessions_134 : decode cX12_sessions 134 = .ok (.ifCond .eq 42, 3) := by decide +kernel
theorem dX12_sessions_137 : decode cX12_sessions 137 = .ok (.aload_n 0, 1) := by decide +kernel
theorem dX12_sessions_138 : decode cX12_sessions 138 = .ok (.iload 8, 2) := by decide +kernel
theorem dX12_sessions_140 : decode cX12_sessions 140 = .ok (.invokevirtual 117, 3) := by decide +kernel
theorem dX12_sessions_143 : decode cX12_sessions 143 = .ok (.ifCond .eq 33, 3) := by decide +kernel
theorem dX12_sessions_146 : decode cX12_sessions 146 = .ok (.aload_n 0, 1) := by decide +kernel
theorem dX12_sessions_147 : decode cX12_sessions 147 = .ok (.getfield 45, 3) := by decide +kernel
theorem dX12_sessions_150 : decode cX12_sessions 150 = .ok (.iload 7, 2) := by decide +kernel
theorem dX12_sessions_152 : decode cX12_sessions 152 = .ok (.iload 8, 2) := by decide +kernel
theorem dX12_sessions_154 : decode cX12_sessions 154 = .ok (.invokestatic 120, 3) := by decide +kernel
theorem dX12_sessions_157 : decode cX12_sessions 157 = .ok (.ifCond .eq 19, 3) := by decide +kernel
theorem dX12_sessions_160 : decode cX12_sessions 160 = .ok (.iload 5, 2) := by decide +kernel
theorem dX12_sessions_162 : decode cX12_sessions 162 = .ok (.aload_n 0, 1) := by decide +kernel
theorem dX12_sessions_163 : decode cX12_sessions 163 = .ok (.getfield 45, 3) := by decide +kernel
theorem dX12_sessions_166 : decode cX12_sessions 166 = .ok (.iload 7, 2) := by decide +kernel
theorem dX12_sessions_168 : decode cX12_sessions 168 = .ok (.iload 8, 2) := by decide +kernel
theorem dX12_sessions_170 : decode cX12_sessions 170 = .ok (.invokestatic 130, 3) := by decide +kernel
theorem dX12_sessions_173 : decode cX12_sessions 173 = .ok (.iadd, 1) := by decide +kernel
theorem dX12_sessions_174 : decode cX12_sessions 174 = .ok (.istore 5, 2) := by decide +kernel
theorem dX12_sessions_176 : decode cX12_sessions 176 = .ok (.lload_n 3, 1) := by decide +kernel
theorem dX12_sessions_177 : decode cX12_sessions 177 = .ok (.ldc2_w 209, 3) := by decide +kernel
theorem dX12_sessions_180 : decode cX12_sessions 180 = .ok (.ldiv, 1) := by decide +kernel
theorem dX12_sessions_181 : decode cX12_sessions 181 = .ok (.ldc2_w 143, 3) := by decide +kernel
theorem dX12_sessions_184 : decode cX12_sessions 184 = .ok (.lrem, 1) := by decide +kernel
theorem dX12_sessions_185 : decode cX12_sessions 185 = .ok (.lconst 0, 1) := by decide +kernel
theorem dX12_sessions_186 : decode cX12_sessions 186 = .ok (.lcmp, 1) := by decide +kernel
theorem dX12_sessions_187 : decode cX12_sessions 187 = .ok (.ifCond .ne 10, 3) := by decide +kernel
theorem dX12_sessions_190 : decode cX12_sessions 190 = .ok (.aload_n 0, 1) := by decide +kernel
theorem dX12_sessions_191 : decode cX12_sessions 191 = .ok (.getfield 45, 3) := by decide +kernel
theorem dX12_sessions_194 : decode cX12_sessions 194 = .ok (.invokestatic 140, 3) := by decide +kernel
theorem dX12_sessions_197 : decode cX12_sessions 197 = .ok (.iinc 6 1, 3) := by decide +kernel
theorem dX12_sessions_200 : decode cX12_sessions 200 = .ok (.goto (-130), 3) := by decide +kernel
theorem dX12_sessions_203 : decode cX12_sessions 203 = .ok (.iload 5, 2) := by decide +kernel
theorem dX12_sessions_205 : decode cX12_sessions 205 = .ok (.ireturn, 1) := by decide +kernel
theorem dX12_type_0 : decode cX12_type 0 = .ok (.iload_n 1, 1) := by decide +kernel
theorem dX12_type_1 : decode cX12_type 1 = .ok (.i2l, 1) := by decide +kernel
theorem dX12_type_2 : decode cX12_type 2 = .ok (.lconst 0, 1) := by decide +kernel
theorem dX12_type_3 : decode cX12_type 3 = .ok (.ldc2_w 211, 3) := by decide +kernel
theorem dX12_type_6 : decode cX12_type 6 = .ok (.invokestatic 65, 3) := by decide +kernel
theorem dX12_type_9 : decode cX12_type 9 = .ok (.ifCond .ne 10, 3) := by decide +kernel
theorem dX12_type_12 : decode cX12_type 12 = .ok (.aload_n 0, 1) := by decide +kernel
theorem dX12_type_13 : decode cX12_type 13 = .ok (.bipush (-2), 2) := by decide +kernel
theorem dX12_type_15 : decode cX12_type 15 = .ok (.invokevirtual 80, 3) := by decide +kernel
theorem dX12_type_18 : decode cX12_type 18 = .ok (.ireturn, 1) := by decide +kernel
theorem dX12_type_19 : decode cX12_type 19 = .ok (.aload_n 0, 1) := by decide +kernel
theorem dX12_type_20 : decode cX12_type 20 = .ok (.getfield 213, 3) := by decide +kernel
theorem dX12_type_23 : decode cX12_type 23 = .ok (.sipush 150, 3) := by decide +kernel
theorem dX12_type_26 : decode cX12_type 26 = .ok (.if_icmp .ne 8, 3) := by decide +kernel
theorem dX12_type_29 : decode cX12_type 29 = .ok (.aload_n 0, 1) := by decide +kernel
theorem dX12_type_30 : decode cX12_type 30 = .ok (.invokevirtual 84, 3) := by decide +kernel
theorem dX12_type_33 : decode cX12_type 33 = .ok (.ireturn, 1) := by decide +kernel
theorem dX12_type_34 : decode cX12_type 34 = .ok (.aload_n 0, 1) := by decide +kernel
theorem dX12_type_35 : decode cX12_type 35 = .ok (.getfield 48, 3) := by decide +kernel
theorem dX12_type_38 : decode cX12_type 38 = .ok (.aload_n 0, 1) := by decide +kernel
theorem dX12_type_39 : decode cX12_type 39 = .ok (.getfield 213, 3) := by decide +kernel
theorem dX12_type_42 : decode cX12_type 42 = .ok (.iload_n 1, 1) := by decide +kernel
theorem dX12_type_43 : decode cX12_type 43 = .ok (.iastore, 1) := by decide +kernel
theorem dX12_type_44 : decode cX12_type 44 = .ok (.aload_n 0, 1) := by decide +kernel
theorem dX12_type_45 : decode cX12_type 45 = .ok (.dup, 1) := by decide +kernel
theorem dX12_type_46 : decode cX12_type 46 = .ok (.getfield 213, 3) := by decide +kernel
theorem dX12_type_49 : decode cX12_type 49 = .ok (.iconst 1, 1) := by decide +kernel
theorem dX12_type_50 : decode cX12_type 50 = .ok (.iadd, 1) := by decide +kernel
theorem dX12_type_51 : decode cX12_type 51 = .ok (.putfield 213, 3) := by decide +kernel
theorem dX12_type_54 : decode cX12_type 54 = .ok (.aload_n 0, 1) := by decide +kernel
theorem dX12_type_55 : decode cX12_type 55 = .ok (.getfield 213, 3) := by decide +kernel
theorem dX12_type_58 : decode cX12_type 58 = .ok (.ireturn, 1) := by decide +kernel
theorem dX12_clear_0 : decode cX12_clear 0 = .ok (.aload_n 0, 1) := by decide +kernel
theorem dX12_clear_1 : decode cX12_clear 1 = .ok (.getfield 213, 3) := by decide +kernel
theorem dX12_clear_4 : decode cX12_clear 4 = .ok (.istore_n 1, 1) := by decide +kernel
theorem dX12_clear_5 : decode cX12_clear 5 = .ok (.aload_n 0, 1) := by decide +kernel
theorem dX12_clear_6 : decode cX12_clear 6 = .ok (.iconst 0, 1) := by decide +kernel
theorem dX12_clear_7 : decode cX12_clear 7 = .ok (.putfield 213, 3) := by decide +kernel
theorem dX12_clear_10 : decode cX12_clear 10 = .ok (.iload_n 1, 1) := by decide +kernel
theorem dX12_clear_11 : decode cX12_clear 11 = .ok (.ireturn, 1) := by decide +kernel
theorem dX12_isSmall_0 : decode cX12_isSmall 0 = .ok (.iload_n 0, 1) := by decide +kernel
theorem dX12_isSmall_1 : decode cX12_isSmall 1 = .ok (.i2l, 1) := by decide +kernel
theorem dX12_isSmall_2 : decode cX12_isSmall 2 = .ok (.ldc2_w 217, 3) := by decide +kernel
theorem dX12_isSmall_5 : decode cX12_isSmall 5 = .ok (.ldc2_w 219, 3) := by decide +kernel
theorem dX12_isSmall_8 : decode cX12_isSmall 8 = .ok (.invokestatic 65, 3) := by decide +kernel
theorem dX12_isSmall_11 : decode cX12_isSmall 11 = .ok (.ireturn, 1) := by decide +kernel
theorem dX12_isFigure_0 : decode cX12_isFigure 0 = .ok (.iload_n 0, 1) := by decide +kernel
theorem dX12_isFigure_1 : decode cX12_isFigure 1 = .ok (.i2l, 1) := by decide +kernel
theorem dX12_isFigure_2 : decode cX12_isFigure 2 = .ok (.ldc2_w 221, 3) := by decide +kernel
theorem dX12_isFigure_5 : decode cX12_isFigure 5 = .ok (.ldc2_w 223, 3) := by decide +kernel
theorem dX12_isFigure_8 : decode cX12_isFigure 8 = .ok (.invokestatic 65, 3) := by decide +kernel
theorem dX12_isFigure_11 : decode cX12_isFigure 11 = .ok (.ireturn, 1) := by decide +kernel
theorem dX12_lookAt_0 : decode cX12_lookAt 0 = .ok (.aload_n 0, 1) := by decide +kernel
theorem dX12_lookAt_1 : decode cX12_lookAt 1 = .ok (.iload_n 1, 1) := by decide +kernel
theorem dX12_lookAt_2 : decode cX12_lookAt 2 = .ok (.putfield 225, 3) := by decide +kernel
theorem dX12_lookAt_5 : decode cX12_lookAt 5 = .ok (.aload_n 0, 1) := by decide +kernel
theorem dX12_lookAt_6 : decode cX12_lookAt 6 = .ok (.getfield 225, 3) := by decide +kernel
theorem dX12_lookAt_9 : decode cX12_lookAt 9 = .ok (.aload_n 0, 1) := by decide +kernel
theorem dX12_lookAt_10 : decode cX12_lookAt 10 = .ok (.getfield 213, 3) := by decide +kernel
theorem dX12_lookAt_13 : decode cX12_lookAt 13 = .ok (.if_icmp .ge 30, 3) := by decide +kernel
theorem dX12_lookAt_16 : decode cX12_lookAt 16 = .ok (.aload_n 0, 1) := by decide +kernel
theorem dX12_lookAt_17 : decode cX12_lookAt 17 = .ok (.getfield 48, 3) := by decide +kernel
theorem dX12_lookAt_20 : decode cX12_lookAt 20 = .ok (.aload_n 0, 1) := by decide +kernel
theorem dX12_lookAt_21 : decode cX12_lookAt 21 = .ok (.getfield 225, 3) := by decide +kernel
theorem dX12_lookAt_24 : decode cX12_lookAt 24 = .ok (.iaload, 1) := by decide +kernel
theorem dX12_lookAt_25 : decode cX12_lookAt 25 = .ok (.bipush 32, 2) := by decide +kernel
theorem dX12_lookAt_27 : decode cX12_lookAt 27 = .ok (.if_icmp .ne 16, 3) := by decide +kernel
theorem dX12_lookAt_30 : decode cX12_lookAt 30 = .ok (.aload_n 0, 1) := by decide +kernel
theorem dX12_lookAt_31 : decode cX12_lookAt 31 = .ok (.dup, 1) := by decide +kernel
theorem dX12_lookAt_32 : decode cX12_lookAt 32 = .ok (.getfield 225, 3) := by decide +kernel
theorem dX12_lookAt_35 : decode cX12_lookAt 35 = .ok (.iconst 1, 1) := by decide +kernel
theorem dX12_lookAt_36 : decode cX12_lookAt 36 = .ok (.iadd, 1) := by decide +kernel
theorem dX12_lookAt_37 : decode cX12_lookAt 37 = .ok (.putfield 225, 3) := by decide +kernel
theorem dX12_lookAt_40 : decode cX12_lookAt 40 = .ok (.goto (-35), 3) := by decide +kernel
theorem dX12_lookAt_43 : decode cX12_lookAt 43 = .ok (.aload_n 0, 1) := by decide +kernel
theorem dX12_lookAt_44 : decode cX12_lookAt 44 = .ok (.iconst 0, 1) := by decide +kernel
theorem dX12_lookAt_45 : decode cX12_lookAt 45 = .ok (.putfield 228, 3) := by decide +kernel
theorem dX12_lookAt_48 : decode cX12_lookAt 48 = .ok (.aload_n 0, 1) := by decide +kernel
theorem dX12_lookAt_49 : decode cX12_lookAt 49 = .ok (.iconst 0, 1) := by decide +kernel
theorem dX12_lookAt_50 : decode cX12_lookAt 50 = .ok (.putfield 231, 3) := by decide +kernel
theorem dX12_lookAt_53 : decode cX12_lookAt 53 = .ok (.aload_n 0, 1) := by decide +kernel
theorem dX12_lookAt_54 : decode cX12_lookAt 54 = .ok (.iconst 0, 1) := by decide +kernel
theorem dX12_lookAt_55 : decode cX12_lookAt 55 = .ok (.putfield 234, 3) := by decide +kernel
theorem dX12_lookAt_58 : decode cX12_lookAt 58 = .ok (.aload_n 0, 1) := by decide +kernel
theorem dX12_lookAt_59 : decode cX12_lookAt 59 = .ok (.getfield 225, 3) := by decide +kernel
theorem dX12_lookAt_62 : decode cX12_lookAt 62 = .ok (.aload_n 0, 1) := by decide +kernel
theorem dX12_lookAt_63 : decode cX12_lookAt 63 = .ok (.getfield 213, 3) := by decide +kernel
theorem dX12_lookAt_66 : decode cX12_lookAt 66 = .ok (.if_icmp .ne 4, 3) := by decide +kernel
theorem dX12_lookAt_69 : decode cX12_lookAt 69 = .ok (.return_, 1) := by decide +kernel
theorem dX12_lookAt_70 : decode cX12_lookAt 70 = .ok (.aload_n 0, 1) := by decide +kernel
theorem dX12_lookAt_71 : decode cX12_lookAt 71 = .ok (.getfield 48, 3) := by decide +kernel
theorem dX12_lookAt_74 : decode cX12_lookAt 74 = .ok (.aload_n 0, 1) := by decide +kernel
theorem dX12_lookAt_75 : decode cX12_lookAt 75 = .ok (.getfield 225, 3) := by decide +kernel
theorem dX12_lookAt_78 : decode cX12_lookAt 78 = .ok (.iaload, 1) := by decide +kernel
theorem dX12_lookAt_79 : decode cX12_lookAt 79 = .ok (.istore_n 2, 1) := by decide +kernel
theorem dX12_lookAt_80 : decode cX12_lookAt 80 = .ok (.aload_n 0, 1) := by decide +kernel
theorem dX12_lookAt_81 : decode cX12_lookAt 81 = .ok (.iload_n 2, 1) := by decide +kernel
theorem dX12_lookAt_82 : decode cX12_lookAt 82 = .ok (.invokestatic 237, 3) := by decide +kernel
theorem dX12_lookAt_85 : decode cX12_lookAt 85 = .ok (.ifCond .eq 7, 3) := by decide +kernel
theorem dX12_lookAt_88 : decode cX12_lookAt 88 = .ok (.iconst 1, 1) := by decide +kernel
theorem dX12_lookAt_89 : decode cX12_lookAt 89 = .ok (.goto 25, 3) := by decide +kernel
theorem dX12_lookAt_92 : decode cX12_lookAt 92 = .ok (.iload_n 2, 1) := by decide +kernel
theorem dX12_lookAt_93 : decode cX12_lookAt 93 = .ok (.invokestatic 240, 3) := by decide +kernel
theorem dX12_lookAt_96 : decode cX12_lookAt 96 = .ok (.ifCond .eq 7, 3) := by decide +kernel
theorem dX12_lookAt_99 : decode cX12_lookAt 99 = .ok (.iconst 2, 1) := by decide +kernel
theorem dX12_lookAt_100 : decode cX12_lookAt 100 = .ok (.goto 14, 3) := by decide +kernel
theorem dX12_lookAt_103 : decode cX12_lookAt 103 = .ok (.iload_n 2, 1) := by decide +kernel
theorem dX12_lookAt_104 : decode cX12_lookAt 104 = .ok (.bipush 59, 2) := by decide +kernel
theorem dX12_lookAt_106 : decode cX12_lookAt 106 = .ok (.if_icmp .ne 7, 3) := by decide +kernel
theorem dX12_lookAt_109 : decode cX12_lookAt 109 = .ok (.iconst 3, 1) := by decide +kernel
theorem dX12_lookAt_110 : decode cX12_lookAt 110 = .ok (.goto 4, 3) := by decide +kernel
theorem dX12_lookAt_113 : decode cX12_lookAt 113 = .ok (.iconst 4, 1) := by decide +kernel
theorem dX12_lookAt_114 : decode cX12_lookAt 114 = .ok (.putfield 231, 3) := by decide +kernel
theorem dX12_lookAt_117 : decode cX12_lookAt 117 = .ok (.aload_n 0, 1) := by decide +kernel
theorem dX12_lookAt_118 : decode cX12_lookAt 118 = .ok (.iconst 1, 1) := by decide +kernel
theorem dX12_lookAt_119 : decode cX12_lookAt 119 = .ok (.putfield 228, 3) := by decide +kernel
theorem dX12_lookAt_122 : decode cX12_lookAt 122 = .ok (.aload_n 0, 1) := by decide +kernel
theorem dX12_lookAt_123 : decode cX12_lookAt 123 = .ok (.getfield 231, 3) := by decide +kernel
theorem dX12_lookAt_126 : decode cX12_lookAt 126 = .ok (.iconst 3, 1) := by decide +kernel
theorem dX12_lookAt_127 : decode cX12_lookAt 127 = .ok (.if_icmp .ge 7, 3) := by decide +kernel
theorem dX12_lookAt_130 : decode cX12_lookAt 130 = .ok (.iconst 1, 1) := by decide +kernel
theorem dX12_lookAt_131 : decode cX12_lookAt 131 = .ok (.goto 4, 3) := by decide +kernel
theorem dX12_lookAt_134 : decode cX12_lookAt 134 = .ok (.iconst 0, 1) := by decide +kernel
theorem dX12_lookAt_135 : decode cX12_lookAt 135 = .ok (.istore_n 3, 1) := by decide +kernel
theorem dX12_lookAt_136 : decode cX12_lookAt 136 = .ok (.iload_n 3, 1) := by decide +kernel
theorem dX12_lookAt_137 : decode cX12_lookAt 137 = .ok (.ifCond .eq 78, 3) := by decide +kernel
theorem dX12_lookAt_140 : decode cX12_lookAt 140 = .ok (.aload_n 0, 1) := by decide +kernel
theorem dX12_lookAt_141 : decode cX12_lookAt 141 = .ok (.getfield 225, 3) := by decide +kernel
theorem dX12_lookAt_144 : decode cX12_lookAt 144 = .ok (.aload_n 0, 1) := by decide +kernel
theorem dX12_lookAt_145 : decode cX12_lookAt 145 = .ok (.getfield 228, 3) := by decide +kernel
theorem dX12_lookAt_148 : decode cX12_lookAt 148 = .ok (.iadd, 1) := by decide +kernel
theorem dX12_lookAt_149 : decode cX12_lookAt 149 = .ok (.aload_n 0, 1) := by decide +kernel
theorem dX12_lookAt_150 : decode cX12_lookAt 150 = .ok (.getfield 213, 3) := by decide +kernel
theorem dX12_lookAt_153 : decode cX12_lookAt 153 = .ok (.if_icmp .ge 62, 3) := by decide +kernel
theorem dX12_lookAt_156 : decode cX12_lookAt 156 = .ok (.aload_n 0, 1) := by decide +kernel
theorem dX12_lookAt_157 : decode cX12_lookAt 157 = .ok (.getfield 48, 3) := by decide +kernel
theorem dX12_lookAt_160 : decode cX12_lookAt 160 = .ok (.aload_n 0, 1) := by decide +kernel
theorem dX12_lookAt_161 : decode cX12_lookAt 161 = .ok (.getfield 225, 3) := by decide +kernel
theorem dX12_lookAt_164 : decode cX12_lookAt 164 = .ok (.aload_n 0, 1) := by decide +kernel
theorem dX12_lookAt_165 : decode cX12_lookAt 165 = .ok (.getfield 228, 3) := by decide +kernel
theorem dX12_lookAt_168 : decode cX12_lookAt 168 = .ok (.iadd, 1) := by decide +kernel
theorem dX12_lookAt_169 : decode cX12_lookAt 169 = .ok (.iaload, 1) := by decide +kernel
theorem dX12_lookAt_170 : decode cX12_lookAt 170 = .ok (.istore 4, 2) := by decide +kernel
theorem dX12_lookAt_172 : decode cX12_lookAt 172 = .ok (.aload_n 0, 1) := by decide +kernel
theorem dX12_lookAt_173 : decode cX12_lookAt 173 = .ok (.getfield 231, 3) := by decide +kernel
theorem dX12_lookAt_176 : decode cX12_lookAt 176 = .ok (.iconst 1, 1) := by decide +kernel
theorem dX12_lookAt_177 : decode cX12_lookAt 177 = .ok (.if_icmp .ne 11, 3) := by decide +kernel
theorem dX12_lookAt_180 : decode cX12_lookAt 180 = .ok (.iload 4, 2) := by decide +kernel
theorem dX12_lookAt_182 : decode cX12_lookAt 182 = .ok (.invokestatic 237, 3) := by decide +kernel
theorem dX12_lookAt_185 : decode cX12_lookAt 185 = .ok (.goto 8, 3) := by decide +kernel
theorem dX12_lookAt_188 : decode cX12_lookAt 188 = .ok (.iload 4, 2) := by decide +kernel
theorem dX12_lookAt_190 : decode cX12_lookAt 190 = .ok (.invokestatic 240, 3) := by decide +kernel
theorem dX12_lookAt_193 : decode cX12_lookAt 193 = .ok (.istore_n 3, 1) := by decide +kernel
theorem dX12_lookAt_194 : decode cX12_lookAt 194 = .ok (.aload_n 0, 1) := by decide +kernel
theorem dX12_lookAt_195 : decode cX12_lookAt 195 = .ok (.dup, 1) := by decide +kernel
theorem dX12_lookAt_196 : decode cX12_lookAt 196 = .ok (.getfield 228, 3) := by decide +kernel
theorem dX12_lookAt_199 : decode cX12_lookAt 199 = .ok (.iload_n 3, 1) := by decide +kernel
theorem dX12_lookAt_200 : decode cX12_lookAt 200 = .ok (.ifCond .eq 7, 3) := by decide +kernel
theorem dX12_lookAt_203 : decode cX12_lookAt 203 = .ok (.iconst 1, 1) := by decide +kernel
theorem dX12_lookAt_204 : decode cX12_lookAt 204 = .ok (.goto 4, 3) := by decide +kernel
theorem dX12_lookAt_207 : decode cX12_lookAt 207 = .ok (.iconst 0, 1) := by decide +kernel
theorem dX12_lookAt_208 : decode cX12_lookAt 208 = .ok (.iadd, 1) := by decide +kernel
theorem dX12_lookAt_209 : decode cX12_lookAt 209 = .ok (.putfield 228, 3) := by decide +kernel
theorem dX12_lookAt_212 : decode cX12_lookAt 212 = .ok (.goto (-76), 3) := by decide +kernel
theorem dX12_lookAt_215 : decode cX12_lookAt 215 = .ok (.iconst 0, 1) := by decide +kernel
theorem dX12_lookAt_216 : decode cX12_lookAt 216 = .ok (.istore 4, 2) := by decide +kernel
theorem dX12_lookAt_218 : decode cX12_lookAt 218 = .ok (.iload 4, 2) := by decide +kernel
theorem dX12_lookAt_220 : decode cX12_lookAt 220 = .ok (.aload_n 0, 1) := by decide +kernel
theorem dX12_lookAt_221 : decode cX12_lookAt 221 = .ok (.getfield 228, 3) := by decide +kernel
theorem dX12_lookAt_224 : decode cX12_lookAt 224 = .ok (.if_icmp .ge 50, 3) := by decide +kernel
theorem dX12_lookAt_227 : decode cX12_lookAt 227 = .ok (.iload 4, 2) := by decide +kernel
theorem dX12_lookAt_229 : decode cX12_lookAt 229 = .ok (.iconst 2, 1) := by decide +kernel
theorem dX12_lookAt_230 : decode cX12_lookAt 230 = .ok (.if_icmp .ge 44, 3) := by decide +kernel
theorem dX12_lookAt_233 : decode cX12_lookAt 233 = .ok (.aload_n 0, 1) := by decide +kernel
theorem dX12_lookAt_234 : decode cX12_lookAt 234 = .ok (.getfield 231, 3) := by decide +kernel
theorem dX12_lookAt_237 : decode cX12_lookAt 237 = .ok (.iconst 2, 1) := by decide +kernel
theorem dX12_lookAt_238 : decode cX12_lookAt 238 = .ok (.if_icmp .ne 36, 3) := by decide +kernel
theorem dX12_lookAt_241 : decode cX12_lookAt 241 = .ok (.aload_n 0, 1) := by decide +kernel
theorem dX12_lookAt_242 : decode cX12_lookAt 242 = .ok (.bipush 10, 2) := by decide +kernel
theorem dX12_lookAt_244 : decode cX12_lookAt 244 = .ok (.aload_n 0, 1) := by decide +kernel
theorem dX12_lookAt_245 : decode cX12_lookAt 245 = .ok (.getfield 234, 3) := by decide +kernel
theorem dX12_lookAt_248 : decode cX12_lookAt 248 = .ok (.imul, 1) := by decide +kernel
theorem dX12_lookAt_249 : decode cX12_lookAt 249 = .ok (.aload_n 0, 1) := by decide +kernel
theorem dX12_lookAt_250 : decode cX12_lookAt 250 = .ok (.getfield 48, 3) := by decide +kernel
theorem dX12_lookAt_253 : decode cX12_lookAt 253 = .ok (.aload_n 0, 1) := by decide +kernel
theorem dX12_lookAt_254 : decode cX12_lookAt 254 = .ok (.getfield 225, 3) := by decide +kernel
theorem dX12_lookAt_257 : decode cX12_lookAt 257 = .ok (.iload 4, 2) := by decide +kernel
theorem dX12_lookAt_259 : decode cX12_lookAt 259 = .ok (.iadd, 1) := by decide +kernel
theorem dX12_lookAt_260 : decode cX12_lookAt 260 = .ok (.iaload, 1) := by decide +kernel
theorem dX12_lookAt_261 : decode cX12_lookAt 261 = .ok (.iadd, 1) := by decide +kernel
theorem dX12_lookAt_262 : decode cX12_lookAt 262 = .ok (.bipush 48, 2) := by decide +kernel
theorem dX12_lookAt_264 : decode cX12_lookAt 264 = .ok (.isub, 1) := by decide +kernel
theorem dX12_lookAt_265 : decode cX12_lookAt 265 = .ok (.putfield 234, 3) := by decide +kernel
theorem dX12_lookAt_268 : decode cX12_lookAt 268 = .ok (.iinc 4 1, 3) := by decide +kernel
theorem dX12_lookAt_271 : decode cX12_lookAt 271 = .ok (.goto (-53), 3) := by decide +kernel
theorem dX12_lookAt_274 : decode cX12_lookAt 274 = .ok (.aload_n 0, 1) := by decide +kernel
theorem dX12_lookAt_275 : decode cX12_lookAt 275 = .ok (.aload_n 0, 1) := by decide +kernel
theorem dX12_lookAt_276 : decode cX12_lookAt 276 = .ok (.getfield 231, 3) := by decide +kernel
theorem dX12_lookAt_279 : decode cX12_lookAt 279 = .ok (.iconst 2, 1) := by decide +kernel
theorem dX12_lookAt_280 : decode cX12_lookAt 280 = .ok (.if_icmp .ne 15, 3) := by decide +kernel
theorem dX12_lookAt_283 : decode cX12_lookAt 283 = .ok (.aload_n 0, 1) := by decide +kernel
theorem dX12_lookAt_284 : decode cX12_lookAt 284 = .ok (.getfield 228, 3) := by decide +kernel
theorem dX12_lookAt_287 : decode cX12_lookAt 287 = .ok (.iconst 2, 1) := by decide +kernel
theorem dX12_lookAt_288 : decode cX12_lookAt 288 = .ok (.if_icmp .le 7, 3) := by decide +kernel
theorem dX12_lookAt_291 : decode cX12_lookAt 291 = .ok (.iconst 4, 1) := by decide +kernel
theorem dX12_lookAt_292 : decode cX12_lookAt 292 = .ok (.goto 7, 3) := by decide +kernel
theorem dX12_lookAt_295 : decode cX12_lookAt 295 = .ok (.aload_n 0, 1) := by decide +kernel
theorem dX12_lookAt_296 : decode cX12_lookAt 296 = .ok (.getfield 231, 3) := by decide +kernel
theorem dX12_lookAt_299 : decode cX12_lookAt 299 = .ok (.putfield 231, 3) := by decide +kernel
theorem dX12_lookAt_302 : decode cX12_lookAt 302 = .ok (.return_, 1) := by decide +kernel
theorem dX12_goBehind_0 : decode cX12_goBehind 0 = .ok (.aload_n 0, 1) := by decide +kernel
theorem dX12_goBehind_1 : decode cX12_goBehind 1 = .ok (.aload_n 0, 1) := by decide +kernel
theorem dX12_goBehind_2 : decode cX12_goBehind 2 = .ok (.getfield 225, 3) := by decide +kernel
theorem dX12_goBehind_5 : decode cX12_goBehind 5 = .ok (.aload_n 0, 1) := by decide +kernel
theorem dX12_goBehind_6 : decode cX12_goBehind 6 = .ok (.getfield 228, 3) := by decide +kernel
theorem dX12_goBehind_9 : decode cX12_goBehind 9 = .ok (.iadd, 1) := by decide +kernel
theorem dX12_goBehind_10 : decode cX12_goBehind 10 = .ok (.invokevirtual 243, 3) := by decide +kernel
theorem dX12_goBehind_13 : decode cX12_goBehind 13 = .ok (.return_, 1) := by decide +kernel
theorem dX12_spells_0 : decode cX12_spells 0 = .ok (.aload_n 0, 1) := by decide +kernel
theorem dX12_spells_1 : decode cX12_spells 1 = .ok (.getfield 231, 3) := by decide +kernel
theorem dX12_spells_4 : decode cX12_spells 4 = .ok (.iconst 1, 1) := by decide +kernel
theorem dX12_spells_5 : decode cX12_spells 5 = .ok (.if_icmp .ne 15, 3) := by decide +kernel
theorem dX12_spells_8 : decode cX12_spells 8 = .ok (.aload_n 0, 1) := by decide +kernel
theorem dX12_spells_9 : decode cX12_spells 9 = .ok (.getfield 228, 3) := by decide +kernel
theorem dX12_spells_12 : decode cX12_spells 12 = .ok (.iload_n 1, 1) := by decide +kernel
theorem dX12_spells_13 : decode cX12_spells 13 = .ok (.if_icmp .ne 7, 3) := by decide +kernel
theorem dX12_spells_16 : decode cX12_spells 16 = .ok (.iconst 1, 1) := by decide +kernel
theorem dX12_spells_17 : decode cX12_spells 17 = .ok (.goto 4, 3) := by decide +kernel
theorem dX12_spells_20 : decode cX12_spells 20 = .ok (.iconst 0, 1) := by decide +kernel
theorem dX12_spells_21 : decode cX12_spells 21 = .ok (.istore 8, 2) := by decide +kernel
theorem dX12_spells_23 : decode cX12_spells 23 = .ok (.iconst 0, 1) := by decide +kernel
theorem dX12_spells_24 : decode cX12_spells 24 = .ok (.istore 9, 2) := by decide +kernel
theorem dX12_spells_26 : decode cX12_spells 26 = .ok (.iload 9, 2) := by decide +kernel
theorem dX12_spells_28 : decode cX12_spells 28 = .ok (.iload_n 1, 1) := by decide +kernel
theorem dX12_spells_29 : decode cX12_spells 29 = .ok (.if_icmp .ge 90, 3) := by decide +kernel
theorem dX12_spells_32 : decode cX12_spells 32 = .ok (.iload 8, 2) := by decide +kernel
theorem dX12_spells_34 : decode cX12_spells 34 = .ok (.ifCond .eq 85, 3) := by decide +kernel
theorem dX12_spells_37 : decode cX12_spells 37 = .ok (.aload_n 0, 1) := by decide +kernel
theorem dX12_spells_38 : decode cX12_spells 38 = .ok (.getfield 48, 3) := by decide +kernel
theorem dX12_spells_41 : decode cX12_spells 41 = .ok (.aload_n 0, 1) := by decide +kernel
theorem dX12_spells_42 : decode cX12_spells 42 = .ok (.getfield 225, 3) := by decide +kernel
theorem dX12_spells_45 : decode cX12_spells 45 = .ok (.iload 9, 2) := by decide +kernel
theorem dX12_spells_47 : decode cX12_spells 47 = .ok (.iadd, 1) := by decide +kernel
theorem dX12_spells_48 : decode cX12_spells 48 = .ok (.iaload, 1) := by decide +kernel
theorem dX12_spells_49 : decode cX12_spells 49 = .ok (.iload 9, 2) := by decide +kernel
theorem dX12_spells_51 : decode cX12_spells 51 = .ok (.ifCond .ne 7, 3) := by decide +kernel
theorem dX12_spells_54 : decode cX12_spells 54 = .ok (.iload_n 2, 1) := by decide +kernel
theorem dX12_spells_55 : decode cX12_spells 55 = .ok (.goto 48, 3) := by decide +kernel
theorem dX12_spells_58 : decode cX12_spells 58 = .ok (.iload 9, 2) := by decide +kernel
theorem dX12_spells_60 : decode cX12_spells 60 = .ok (.iconst 1, 1) := by decide +kernel
theorem dX12_spells_61 : decode cX12_spells 61 = .ok (.if_icmp .ne 7, 3) := by decide +kernel
theorem dX12_spells_64 : decode cX12_spells 64 = .ok (.iload_n 3, 1) := by decide +kernel
theorem dX12_spells_65 : decode cX12_spells 65 = .ok (.goto 38, 3) := by decide +kernel
theorem dX12_spells_68 : decode cX12_spells 68 = .ok (.iload 9, 2) := by decide +kernel
theorem dX12_spells_70 : decode cX12_spells 70 = .ok (.iconst 2, 1) := by decide +kernel
theorem dX12_spells_71 : decode cX12_spells 71 = .ok (.if_icmp .ne 8, 3) := by decide +kernel
theorem dX12_spells_74 : decode cX12_spells 74 = .ok (.iload 4, 2) := by decide +kernel
theorem dX12_spells_76 : decode cX12_spells 76 = .ok (.goto 27, 3) := by decide +kernel
theorem dX12_spells_79 : decode cX12_spells 79 = .ok (.iload 9, 2) := by decide +kernel
theorem dX12_spells_81 : decode cX12_spells 81 = .ok (.iconst 3, 1) := by decide +kernel
theorem dX12_spells_82 : decode cX12_spells 82 = .ok (.if_icmp .ne 8, 3) := by decide +kernel
theorem dX12_spells_85 : decode cX12_spells 85 = .ok (.iload 5, 2) := by decide +kernel
theorem dX12_spells_87 : decode cX12_spells 87 = .ok (.goto 16, 3) := by decide +kernel
theorem dX12_spells_90 : decode cX12_spells 90 = .ok (.iload 9, 2) := by decide +kernel
theorem dX12_spells_92 : decode cX12_spells 92 = .ok (.iconst 4, 1) := by decide +kernel
theorem dX12_spells_93 : decode cX12_spells 93 = .ok (.if_icmp .ne 8, 3) := by decide +kernel
theorem dX12_spells_96 : decode cX12_spells 96 = .ok (.iload 6, 2) := by decide +kernel
theorem dX12_spells_98 : decode cX12_spells 98 = .ok (.goto 5, 3) := by decide +kernel
theorem dX12_spells_101 : decode cX12_spells 101 = .ok (.iload 7, 2) := by decide +kernel
theorem dX12_spells_103 : decode cX12_spells 103 = .ok (.if_icmp .ne 7, 3) := by decide +kernel
theorem dX12_spells_106 : decode cX12_spells 106 = .ok (.iconst 1, 1) := by decide +kernel
theorem dX12_spells_107 : decode cX12_spells 107 = .ok (.goto 4, 3) := by decide +kernel
theorem dX12_spells_110 : decode cX12_spells 110 = .ok (.iconst 0, 1) := by decide +kernel
theorem dX12_spells_111 : decode cX12_spells 111 = .ok (.istore 8, 2) := by decide +kernel
theorem dX12_spells_113 : decode cX12_spells 113 = .ok (.iinc 9 1, 3) := by decide +kernel
theorem dX12_spells_116 : decode cX12_spells 116 = .ok (.goto (-90), 3) := by decide +kernel
theorem dX12_spells_119 : decode cX12_spells 119 = .ok (.iload 8, 2) := by decide +kernel
theorem dX12_spells_121 : decode cX12_spells 121 = .ok (.ireturn, 1) := by decide +kernel
theorem dX12_takes_0 : decode cX12_takes 0 = .ok (.aload_n 0, 1) := by decide +kernel
theorem dX12_takes_1 : decode cX12_takes 1 = .ok (.getfield 231, 3) := by decide +kernel
theorem dX12_takes_4 : decode cX12_takes 4 = .ok (.iconst 2, 1) := by decide +kernel
theorem dX12_takes_5 : decode cX12_takes 5 = .ok (.if_icmp .ne 18, 3) := by decide +kernel
theorem dX12_takes_8 : decode cX12_takes 8 = .ok (.aload_n 0, 1) := by decide +kernel
theorem dX12_takes_9 : decode cX12_takes 9 = .ok (.getfield 234, 3) := by decide +kernel
theorem dX12_takes_12 : decode cX12_takes 12 = .ok (.i2l, 1) := by decide +kernel
theorem dX12_takes_13 : decode cX12_takes 13 = .ok (.iload_n 2, 1) := by decide +kernel
theorem dX12_takes_14 : decode cX12_takes 14 = .ok (.i2l, 1) := by decide +kernel
theorem dX12_takes_15 : decode cX12_takes 15 = .ok (.iload_n 3, 1) := by decide +kernel
theorem dX12_takes_16 : decode cX12_takes 16 = .ok (.i2l, 1) := by decide +kernel
theorem dX12_takes_17 : decode cX12_takes 17 = .ok (.invokestatic 65, 3) := by decide +kernel
theorem dX12_takes_20 : decode cX12_takes 20 = .ok (.ifCond .ne 5, 3) := by decide +kernel
theorem dX12_takes_23 : decode cX12_takes 23 = .ok (.iconst 0, 1) := by decide +kernel
theorem dX12_takes_24 : decode cX12_takes 24 = .ok (.ireturn, 1) := by decide +kernel
theorem dX12_takes_25 : decode cX12_takes 25 = .ok (.aload_n 0, 1) := by decide +kernel
theorem dX12_takes_26 : decode cX12_takes 26 = .ok (.getfield 54, 3) := by decide +kernel
theorem dX12_takes_29 : decode cX12_takes 29 = .ok (.iload_n 1, 1) := by decide +kernel
theorem dX12_takes_30 : decode cX12_takes 30 = .ok (.aload_n 0, 1) := by decide +kernel
theorem dX12_takes_31 : decode cX12_takes 31 = .ok (.getfield 234, 3) := by decide +kernel
theorem dX12_takes_34 : decode cX12_takes 34 = .ok (.iastore, 1) := by decide +kernel
theorem dX12_takes_35 : decode cX12_takes 35 = .ok (.aload_n 0, 1) := by decide +kernel
theorem dX12_takes_36 : decode cX12_takes 36 = .ok (.invokevirtual 247, 3) := by decide +kernel
theorem dX12_takes_39 : decode cX12_takes 39 = .ok (.iconst 1, 1) := by decide +kernel
theorem dX12_takes_40 : decode cX12_takes 40 = .ok (.ireturn, 1) := by decide +kernel
theorem dX12_takesMember_0 : decode cX12_takesMember 0 = .ok (.aload_n 0, 1) := by decide +kernel
theorem dX12_takesMember_1 : decode cX12_takesMember 1 = .ok (.getfield 51, 3) := by decide +kernel
theorem dX12_takesMember_4 : decode cX12_takesMember 4 = .ok (.iconst 0, 1) := by decide +kernel
theorem dX12_takesMember_5 : decode cX12_takesMember 5 = .ok (.iaload, 1) := by decide +kernel
theorem dX12_takesMember_6 : decode cX12_takesMember 6 = .ok (.iconst 5, 1) := by decide +kernel
theorem dX12_takesMember_7 : decode cX12_takesMember 7 = .ok (.if_icmp .ne 5, 3) := by decide +kernel
theorem dX12_takesMember_10 : decode cX12_takesMember 10 = .ok (.iconst 0, 1) := by decide +kernel
theorem dX12_takesMember_11 : decode cX12_takesMember 11 = .ok (.ireturn, 1) := by decide +kernel
theorem dX12_takesMember_12 : decode cX12_takesMember 12 = .ok (.aload_n 0, 1) := by decide +kernel
theorem dX12_takesMember_13 : decode cX12_takesMember 13 = .ok (.invokevirtual 247, 3) := by decide +kernel
theorem dX12_takesMember_16 : decode cX12_takesMember 16 = .ok (.aload_n 0, 1) := by decide +kernel
theorem dX12_takesMember_17 : decode cX12_takesMember 17 = .ok (.iconst 0, 1) := by decide +kernel
theorem dX12_takesMember_18 : decode cX12_takesMember 18 = .ok (.iconst 0, 1) := by decide +kernel
theorem dX12_takesMember_19 : decode cX12_takesMember 19 = .ok (.iconst 5, 1) := by decide +kernel
theorem dX12_takesMember_20 : decode cX12_takesMember 20 = .ok (.invokevirtual 250, 3) := by decide +kernel
theorem dX12_takesMember_23 : decode cX12_takesMember 23 = .ok (.ifCond .eq 14, 3) := by decide +kernel
theorem dX12_takesMember_26 : decode cX12_takesMember 26 = .ok (.aload_n 0, 1) := by decide +kernel
theorem dX12_takesMember_27 : decode cX12_takesMember 27 = .ok (.iconst 1, 1) := by decide +kernel
theorem dX12_takesMember_28 : decode cX12_takesMember 28 = .ok (.iconst 0, 1) := by decide +kernel
theorem dX12_takesMember_29 : decode cX12_takesMember 29 = .ok (.bipush 99, 2) := by decide +kernel
theorem dX12_takesMember_31 : decode cX12_takesMember 31 = .ok (.invokevirtual 250, 3) := by decide +kernel
theorem dX12_takesMember_34 : decode cX12_takesMember 34 = .ok (.ifCond .ne 5, 3) := by decide +kernel
theorem dX12_takesMember_37 : decode cX12_takesMember 37 = .ok (.iconst 0, 1) := by decide +kernel
theorem dX12_takesMember_38 : decode cX12_takesMember 38 = .ok (.ireturn, 1) := by decide +kernel
theorem dX12_takesMember_39 : decode cX12_takesMember 39 = .ok (.aload_n 0, 1) := by decide +kernel
theorem dX12_takesMember_40 : decode cX12_takesMember 40 = .ok (.getfield 51, 3) := by decide +kernel
theorem dX12_takesMember_43 : decode cX12_takesMember 43 = .ok (.aload_n 0, 1) := by decide +kernel
theorem dX12_takesMember_44 : decode cX12_takesMember 44 = .ok (.getfield 54, 3) := by decide +kernel
theorem dX12_takesMember_47 : decode cX12_takesMember 47 = .ok (.iconst 0, 1) := by decide +kernel
theorem dX12_takesMember_48 : decode cX12_takesMember 48 = .ok (.iaload, 1) := by decide +kernel
theorem dX12_takesMember_49 : decode cX12_takesMember 49 = .ok (.aload_n 0, 1) := by decide +kernel
theorem dX12_takesMember_50 : decode cX12_takesMember 50 = .ok (.getfield 54, 3) := by decide +kernel
theorem dX12_takesMember_53 : decode cX12_takesMember 53 = .ok (.iconst 1, 1) := by decide +kernel
theorem dX12_takesMember_54 : decode cX12_takesMember 54 = .ok (.iaload, 1) := by decide +kernel
theorem dX12_takesMember_55 : decode cX12_takesMember 55 = .ok (.invokestatic 87, 3) := by decide +kernel
theorem dX12_takesMember_58 : decode cX12_takesMember 58 = .ok (.iconst 1, 1) := by decide +kernel
theorem dX12_takesMember_59 : decode cX12_takesMember 59 = .ok (.ireturn, 1) := by decide +kernel
theorem dX12_takesLetter_0 : decode cX12_takesLetter 0 = .ok (.aload_n 0, 1) := by decide +kernel
theorem dX12_takesLetter_1 : decode cX12_takesLetter 1 = .ok (.getfield 51, 3) := by decide +kernel
theorem dX12_takesLetter_4 : decode cX12_takesLetter 4 = .ok (.iconst 1, 1) := by decide +kernel
theorem dX12_takesLetter_5 : decode cX12_takesLetter 5 = .ok (.iaload, 1) := by decide +kernel
theorem dX12_takesLetter_6 : decode cX12_takesLetter 6 = .ok (.bipush 6, 2) := by decide +kernel
theorem dX12_takesLetter_8 : decode cX12_takesLetter 8 = .ok (.if_icmp .ne 5, 3) := by decide +kernel
theorem dX12_takesLetter_11 : decode cX12_takesLetter 11 = .ok (.iconst 0, 1) := by decide +kernel
theorem dX12_takesLetter_12 : decode cX12_takesLetter 12 = .ok (.ireturn, 1) := by decide +kernel
theorem dX12_takesLetter_13 : decode cX12_takesLetter 13 = .ok (.aload_n 0, 1) := by decide +kernel
theorem dX12_takesLetter_14 : decode cX12_takesLetter 14 = .ok (.invokevirtual 247, 3) := by decide +kernel
theorem dX12_takesLetter_17 : decode cX12_takesLetter 17 = .ok (.aload_n 0, 1) := by decide +kernel
theorem dX12_takesLetter_18 : decode cX12_takesLetter 18 = .ok (.iconst 0, 1) := by decide +kernel
theorem dX12_takesLetter_19 : decode cX12_takesLetter 19 = .ok (.iconst 0, 1) := by decide +kernel
theorem dX12_takesLetter_20 : decode cX12_takesLetter 20 = .ok (.bipush 99, 2) := by decide +kernel
theorem dX12_takesLetter_22 : decode cX12_takesLetter 22 = .ok (.invokevirtual 250, 3) := by decide +kernel
theorem dX12_takesLetter_25 : decode cX12_takesLetter 25 = .ok (.ifCond .eq 25, 3) := by decide +kernel
theorem dX12_takesLetter_28 : decode cX12_takesLetter 28 = .ok (.aload_n 0, 1) := by decide +kernel
theorem dX12_takesLetter_29 : decode cX12_takesLetter 29 = .ok (.iconst 1, 1) := by decide +kernel
theorem dX12_takesLetter_30 : decode cX12_takesLetter 30 = .ok (.iconst 0, 1) := by decide +kernel
theorem dX12_takesLetter_31 : decode cX12_takesLetter 31 = .ok (.bipush 99, 2) := by decide +kernel
theorem dX12_takesLetter_33 : decode cX12_takesLetter 33 = .ok (.invokevirtual 250, 3) := by decide +kernel
theorem dX12_takesLetter_36 : decode cX12_takesLetter 36 = .ok (.ifCond .eq 14, 3) := by decide +kernel
theorem dX12_takesLetter_39 : decode cX12_takesLetter 39 = .ok (.aload_n 0, 1) := by decide +kernel
theorem dX12_takesLetter_40 : decode cX12_takesLetter 40 = .ok (.iconst 2, 1) := by decide +kernel
theorem dX12_takesLetter_41 : decode cX12_takesLetter 41 = .ok (.iconst 1, 1) := by decide +kernel
theorem dX12_takesLetter_42 : decode cX12_takesLetter 42 = .ok (.bipush 9, 2) := by decide +kernel
theorem dX12_takesLetter_44 : decode cX12_takesLetter 44 = .ok (.invokevirtual 250, 3) := by decide +kernel
theorem dX12_takesLetter_47 : decode cX12_takesLetter 47 = .ok (.ifCond .ne 5, 3) := by decide +kernel
theorem dX12_takesLetter_50 : decode cX12_takesLetter 50 = .ok (.iconst 0, 1) := by decide +kernel
theorem dX12_takesLetter_51 : decode cX12_takesLetter 51 = .ok (.ireturn, 1) := by decide +kernel
theorem dX12_takesLetter_52 : decode cX12_takesLetter 52 = .ok (.aload_n 0, 1) := by decide +kernel
theorem dX12_takesLetter_53 : decode cX12_takesLetter 53 = .ok (.getfield 51, 3) := by decide +kernel
theorem dX12_takesLetter_56 : decode cX12_takesLetter 56 = .ok (.aload_n 0, 1) := by decide +kernel
theorem dX12_takesLetter_57 : decode cX12_takesLetter 57 = .ok (.getfield 54, 3) := by decide +kernel
theorem dX12_takesLetter_60 : decode cX12_takesLetter 60 = .ok (.iconst 0, 1) := by decide +kernel
theorem dX12_takesLetter_61 : decode cX12_takesLetter 61 = .ok (.iaload, 1) := by decide +kernel
theorem dX12_takesLetter_62 : decode cX12_takesLetter 62 = .ok (.aload_n 0, 1) := by decide +kernel
theorem dX12_takesLetter_63 : decode cX12_takesLetter 63 = .ok (.getfield 54, 3) := by decide +kernel
theorem dX12_takesLetter_66 : decode cX12_takesLetter 66 = .ok (.iconst 1, 1) := by decide +kernel
theorem dX12_takesLetter_67 : decode cX12_takesLetter 67 = .ok (.iaload, 1) := by decide +kernel
theorem dX12_takesLetter_68 : decode cX12_takesLetter 68 = .ok (.aload_n 0, 1) := by decide +kernel
theorem dX12_takesLetter_69 : decode cX12_takesLetter 69 = .ok (.getfield 54, 3) := by decide +kernel
theorem dX12_takesLetter_72 : decode cX12_takesLetter 72 = .ok (.iconst 2, 1) := by decide +kernel
theorem dX12_takesLetter_73 : decode cX12_takesLetter 73 = .ok (.iaload, 1) := by decide +kernel
theorem dX12_takesLetter_74 : decode cX12_takesLetter 74 = .ok (.invokestatic 93, 3) := by decide +kernel
theorem dX12_takesLetter_77 : decode cX12_takesLetter 77 = .ok (.iconst 1, 1) := by decide +kernel
theorem dX12_takesLetter_78 : decode cX12_takesLetter 78 = .ok (.ireturn, 1) := by decide +kernel
theorem dX12_takesFrank_0 : decode cX12_takesFrank 0 = .ok (.aload_n 0, 1) := by decide +kernel
theorem dX12_takesFrank_1 : decode cX12_takesFrank 1 = .ok (.invokevirtual 247, 3) := by decide +kernel
theorem dX12_takesFrank_4 : decode cX12_takesFrank 4 = .ok (.aload_n 0, 1) := by decide +kernel
theorem dX12_takesFrank_5 : decode cX12_takesFrank 5 = .ok (.iconst 0, 1) := by decide +kernel
theorem dX12_takesFrank_6 : decode cX12_takesFrank 6 = .ok (.iconst 0, 1) := by decide +kernel
theorem dX12_takesFrank_7 : decode cX12_takesFrank 7 = .ok (.aload_n 0, 1) := by decide +kernel
theorem dX12_takesFrank_8 : decode cX12_takesFrank 8 = .ok (.getfield 51, 3) := by decide +kernel
theorem dX12_takesFrank_11 : decode cX12_takesFrank 11 = .ok (.iconst 1, 1) := by decide +kernel
theorem dX12_takesFrank_12 : decode cX12_takesFrank 12 = .ok (.iaload, 1) := by decide +kernel
theorem dX12_takesFrank_13 : decode cX12_takesFrank 13 = .ok (.iconst 1, 1) := by decide +kernel
theorem dX12_takesFrank_14 : decode cX12_takesFrank 14 = .ok (.isub, 1) := by decide +kernel
theorem dX12_takesFrank_15 : decode cX12_takesFrank 15 = .ok (.invokevirtual 250, 3) := by decide +kernel
theorem dX12_takesFrank_18 : decode cX12_takesFrank 18 = .ok (.ifCond .ne 5, 3) := by decide +kernel
theorem dX12_takesFrank_21 : decode cX12_takesFrank 21 = .ok (.iconst 0, 1) := by decide +kernel
theorem dX12_takesFrank_22 : decode cX12_takesFrank 22 = .ok (.ireturn, 1) := by decide +kernel
theorem dX12_takesFrank_23 : decode cX12_takesFrank 23 = .ok (.aload_n 0, 1) := by decide +kernel
theorem dX12_takesFrank_24 : decode cX12_takesFrank 24 = .ok (.getfield 231, 3) := by decide +kernel
theorem dX12_takesFrank_27 : decode cX12_takesFrank 27 = .ok (.iconst 2, 1) := by decide +kernel
theorem dX12_takesFrank_28 : decode cX12_takesFrank 28 = .ok (.if_icmp .ne 54, 3) := by decide +kernel
theorem dX12_takesFrank_31 : decode cX12_takesFrank 31 = .ok (.aload_n 0, 1) := by decide +kernel
theorem dX12_takesFrank_32 : decode cX12_takesFrank 32 = .ok (.getfield 234, 3) := by decide +kernel
theorem dX12_takesFrank_35 : decode cX12_takesFrank 35 = .ok (.i2l, 1) := by decide +kernel
theorem dX12_takesFrank_36 : decode cX12_takesFrank 36 = .ok (.lconst 0, 1) := by decide +kernel
theorem dX12_takesFrank_37 : decode cX12_takesFrank 37 = .ok (.aload_n 0, 1) := by decide +kernel
theorem dX12_takesFrank_38 : decode cX12_takesFrank 38 = .ok (.getfield 51, 3) := by decide +kernel
theorem dX12_takesFrank_41 : decode cX12_takesFrank 41 = .ok (.iconst 0, 1) := by decide +kernel
theorem dX12_takesFrank_42 : decode cX12_takesFrank 42 = .ok (.iaload, 1) := by decide +kernel
theorem dX12_takesFrank_43 : decode cX12_takesFrank 43 = .ok (.iconst 1, 1) := by decide +kernel
theorem dX12_takesFrank_44 : decode cX12_takesFrank 44 = .ok (.isub, 1) := by decide +kernel
theorem dX12_takesFrank_45 : decode cX12_takesFrank 45 = .ok (.i2l, 1) := by decide +kernel
theorem dX12_takesFrank_46 : decode cX12_takesFrank 46 = .ok (.invokestatic 65, 3) := by decide +kernel
theorem dX12_takesFrank_49 : decode cX12_takesFrank 49 = .ok (.ifCond .eq 33, 3) := by decide +kernel
theorem dX12_takesFrank_52 : decode cX12_takesFrank 52 = .ok (.aload_n 0, 1) := by decide +kernel
theorem dX12_takesFrank_53 : decode cX12_takesFrank 53 = .ok (.getfield 51, 3) := by decide +kernel
theorem dX12_takesFrank_56 : decode cX12_takesFrank 56 = .ok (.aload_n 0, 1) := by decide +kernel
theorem dX12_takesFrank_57 : decode cX12_takesFrank 57 = .ok (.getfield 54, 3) := by decide +kernel
theorem dX12_takesFrank_60 : decode cX12_takesFrank 60 = .ok (.iconst 0, 1) := by decide +kernel
theorem dX12_takesFrank_61 : decode cX12_takesFrank 61 = .ok (.iaload, 1) := by decide +kernel
theorem dX12_takesFrank_62 : decode cX12_takesFrank 62 = .ok (.aload_n 0, 1) := by decide +kernel
theorem dX12_takesFrank_63 : decode cX12_takesFrank 63 = .ok (.getfield 234, 3) := by decide +kernel
theorem dX12_takesFrank_66 : decode cX12_takesFrank 66 = .ok (.invokestatic 120, 3) := by decide +kernel
theorem dX12_takesFrank_69 : decode cX12_takesFrank 69 = .ok (.ifCond .eq 13, 3) := by decide +kernel
theorem dX12_takesFrank_72 : decode cX12_takesFrank 72 = .ok (.aload_n 0, 1) := by decide +kernel
theorem dX12_takesFrank_73 : decode cX12_takesFrank 73 = .ok (.iconst 1, 1) := by decide +kernel
theorem dX12_takesFrank_74 : decode cX12_takesFrank 74 = .ok (.iconst 0, 1) := by decide +kernel
theorem dX12_takesFrank_75 : decode cX12_takesFrank 75 = .ok (.iconst 4, 1) := by decide +kernel
theorem dX12_takesFrank_76 : decode cX12_takesFrank 76 = .ok (.invokevirtual 250, 3) := by decide +kernel
theorem dX12_takesFrank_79 : decode cX12_takesFrank 79 = .ok (.ifCond .ne 5, 3) := by decide +kernel
theorem dX12_takesFrank_82 : decode cX12_takesFrank 82 = .ok (.iconst 0, 1) := by decide +kernel
theorem dX12_takesFrank_83 : decode cX12_takesFrank 83 = .ok (.ireturn, 1) := by decide +kernel
theorem dX12_takesFrank_84 : decode cX12_takesFrank 84 = .ok (.aload_n 0, 1) := by decide +kernel
theorem dX12_takesFrank_85 : decode cX12_takesFrank 85 = .ok (.getfield 51, 3) := by decide +kernel
theorem dX12_takesFrank_88 : decode cX12_takesFrank 88 = .ok (.aload_n 0, 1) := by decide +kernel
theorem dX12_takesFrank_89 : decode cX12_takesFrank 89 = .ok (.getfield 54, 3) := by decide +kernel
theorem dX12_takesFrank_92 : decode cX12_takesFrank 92 = .ok (.iconst 0, 1) := by decide +kernel
theorem dX12_takesFrank_93 : decode cX12_takesFrank 93 = .ok (.iaload, 1) := by decide +kernel
theorem dX12_takesFrank_94 : decode cX12_takesFrank 94 = .ok (.aload_n 0, 1) := by decide +kernel
theorem dX12_takesFrank_95 : decode cX12_takesFrank 95 = .ok (.getfield 54, 3) := by decide +kernel
theorem dX12_takesFrank_98 : decode cX12_takesFrank 98 = .ok (.iconst 1, 1) := by decide +kernel
theorem dX12_takesFrank_99 : decode cX12_takesFrank 99 = .ok (.iaload, 1) := by decide +kernel
theorem dX12_takesFrank_100 : decode cX12_takesFrank 100 = .ok (.invokestatic 130, 3) := by decide +kernel
theorem dX12_takesFrank_103 : decode cX12_takesFrank 103 = .ok (.ifCond .le 7, 3) := by decide +kernel
theorem dX12_takesFrank_106 : decode cX12_takesFrank 106 = .ok (.iconst 1, 1) := by decide +kernel
theorem dX12_takesFrank_107 : decode cX12_takesFrank 107 = .ok (.goto 4, 3) := by decide +kernel
theorem dX12_takesFrank_110 : decode cX12_takesFrank 110 = .ok (.iconst 0, 1) := by decide +kernel
theorem dX12_takesFrank_111 : decode cX12_takesFrank 111 = .ok (.ireturn, 1) := by decide +kernel
theorem dX12_takesItem_0 : decode cX12_takesItem 0 = .ok (.aload_n 0, 1) := by decide +kernel
theorem dX12_takesItem_1 : decode cX12_takesItem 1 = .ok (.bipush 6, 2) := by decide +kernel
theorem dX12_takesItem_3 : decode cX12_takesItem 3 = .ok (.bipush 109, 2) := by decide +kernel
theorem dX12_takesItem_5 : decode cX12_takesItem 5 = .ok (.bipush 101, 2) := by decide +kernel
theorem dX12_takesItem_7 : decode cX12_takesItem 7 = .ok (.bipush 109, 2) := by decide +kernel
theorem dX12_takesItem_9 : decode cX12_takesItem 9 = .ok (.bipush 98, 2) := by decide +kernel
theorem dX12_takesItem_11 : decode cX12_takesItem 11 = .ok (.bipush 101, 2) := by decide +kernel
theorem dX12_takesItem_13 : decode cX12_takesItem 13 = .ok (.bipush 114, 2) := by decide +kernel
theorem dX12_takesItem_15 : decode cX12_takesItem 15 = .ok (.invokevirtual 253, 3) := by decide +kernel
theorem dX12_takesItem_18 : decode cX12_takesItem 18 = .ok (.ifCond .eq 8, 3) := by decide +kernel
theorem dX12_takesItem_21 : decode cX12_takesItem 21 = .ok (.aload_n 0, 1) := by decide +kernel
theorem dX12_takesItem_22 : decode cX12_takesItem 22 = .ok (.invokevirtual 257, 3) := by decide +kernel
theorem dX12_takesItem_25 : decode cX12_takesItem 25 = .ok (.ireturn, 1) := by decide +kernel
theorem dX12_takesItem_26 : decode cX12_takesItem 26 = .ok (.aload_n 0, 1) := by decide +kernel
theorem dX12_takesItem_27 : decode cX12_takesItem 27 = .ok (.bipush 6, 2) := by decide +kernel
theorem dX12_takesItem_29 : decode cX12_takesItem 29 = .ok (.bipush 108, 2) := by decide +kernel
theorem dX12_takesItem_31 : decode cX12_takesItem 31 = .ok (.bipush 101, 2) := by decide +kernel
theorem dX12_takesItem_33 : decode cX12_takesItem 33 = .ok (.bipush 116, 2) := by decide +kernel
theorem dX12_takesItem_35 : decode cX12_takesItem 35 = .ok (.bipush 116, 2) := by decide +kernel
theorem dX12_takesItem_37 : decode cX12_takesItem 37 = .ok (.bipush 101, 2) := by decide +kernel
theorem dX12_takesItem_39 : decode cX12_takesItem 39 = .ok (.bipush 114, 2) := by decide +kernel
theorem dX12_takesItem_41 : decode cX12_takesItem 41 = .ok (.invokevirtual 253, 3) := by decide +kernel
theorem dX12_takesItem_44 : decode cX12_takesItem 44 = .ok (.ifCond .eq 8, 3) := by decide +kernel
theorem dX12_takesItem_47 : decode cX12_takesItem 47 = .ok (.aload_n 0, 1) := by decide +kernel
theorem dX12_takesItem_48 : decode cX12_takesItem 48 = .ok (.invokevirtual 261, 3) := by decide +kernel
theorem dX12_takesItem_51 : decode cX12_takesItem 51 = .ok (.ireturn, 1) := by decide +kernel
theorem dX12_takesItem_52 : decode cX12_takesItem 52 = .ok (.aload_n 0, 1) := by decide +kernel
theorem dX12_takesItem_53 : decode cX12_takesItem 53 = .ok (.iconst 5, 1) := by decide +kernel
theorem dX12_takesItem_54 : decode cX12_takesItem 54 = .ok (.bipush 102, 2) := by decide +kernel
theorem dX12_takesItem_56 : decode cX12_takesItem 56 = .ok (.bipush 114, 2) := by decide +kernel
theorem dX12_takesItem_58 : decode cX12_takesItem 58 = .ok (.bipush 97, 2) := by decide +kernel
theorem dX12_takesItem_60 : decode cX12_takesItem 60 = .ok (.bipush 110, 2) := by decide +kernel
theorem dX12_takesItem_62 : decode cX12_takesItem 62 = .ok (.bipush 107, 2) := by decide +kernel
theorem dX12_takesItem_64 : decode cX12_takesItem 64 = .ok (.iconst 0, 1) := by decide +kernel
theorem dX12_takesItem_65 : decode cX12_takesItem 65 = .ok (.invokevirtual 253, 3) := by decide +kernel
theorem dX12_takesItem_68 : decode cX12_takesItem 68 = .ok (.ifCond .eq 14, 3) := by decide +kernel
theorem dX12_takesItem_71 : decode cX12_takesItem 71 = .ok (.aload_n 0, 1) := by decide +kernel
theorem dX12_takesItem_72 : decode cX12_takesItem 72 = .ok (.invokevirtual 264, 3) := by decide +kernel
theorem dX12_takesItem_75 : decode cX12_takesItem 75 = .ok (.ifCond .eq 7, 3) := by decide +kernel
theorem dX12_takesItem_78 : decode cX12_takesItem 78 = .ok (.iconst 1, 1) := by decide +kernel
theorem dX12_takesItem_79 : decode cX12_takesItem 79 = .ok (.goto 4, 3) := by decide +kernel
theorem dX12_takesItem_82 : decode cX12_takesItem 82 = .ok (.iconst 0, 1) := by decide +kernel
theorem dX12_takesItem_83 : decode cX12_takesItem 83 = .ok (.ireturn, 1) := by decide +kernel
