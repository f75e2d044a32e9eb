theorem dX11_fewest_0 : decode cX11_fewest 0 = .ok (.aload_n 0, 1) := by decide +kernel
theorem dX11_fewest_1 : decode cX11_fewest 1 = .ok (.getfield 30, 3) := by decide +kernel
theorem dX11_fewest_4 : decode cX11_fewest 4 = .ok (.invokevirtual 210, 3) := by decide +kernel
theorem dX11_fewest_7 : decode cX11_fewest 7 = .ok (.istore_n 1, 1) := by decide +kernel
theorem dX11_fewest_8 : decode cX11_fewest 8 = .ok (.iconst (-1), 1) := by decide +kernel
theorem dX11_fewest_9 : decode cX11_fewest 9 = .ok (.istore_n 2, 1) := by decide +kernel
theorem dX11_fewest_10 : decode cX11_fewest 10 = .ok (.iconst 0, 1) := by decide +kernel
theorem dX11_fewest_11 : decode cX11_fewest 11 = .ok (.istore_n 3, 1) := by decide +kernel
theorem dX11_fewest_12 : decode cX11_fewest 12 = .ok (.iload_n 3, 1) := by decide +kernel
theorem dX11_fewest_13 : decode cX11_fewest 13 = .ok (.aload_n 0, 1) := by decide +kernel
theorem dX11_fewest_14 : decode cX11_fewest 14 = .ok (.invokevirtual 216, 3) := by decide +kernel
theorem dX11_fewest_17 : decode cX11_fewest 17 = .ok (.if_icmp .gt 55, 3) := by decide +kernel
theorem dX11_fewest_20 : decode cX11_fewest 20 = .ok (.iload_n 2, 1) := by decide +kernel
theorem dX11_fewest_21 : decode cX11_fewest 21 = .ok (.iconst (-1), 1) := by decide +kernel
theorem dX11_fewest_22 : decode cX11_fewest 22 = .ok (.if_icmp .eq 14, 3) := by decide +kernel
theorem dX11_fewest_25 : decode cX11_fewest 25 = .ok (.iload_n 3, 1) := by decide +kernel
theorem dX11_fewest_26 : decode cX11_fewest 26 = .ok (.invokestatic 226, 3) := by decide +kernel
theorem dX11_fewest_29 : decode cX11_fewest 29 = .ok (.iload_n 2, 1) := by decide +kernel
theorem dX11_fewest_30 : decode cX11_fewest 30 = .ok (.invokestatic 226, 3) := by decide +kernel
theorem dX11_fewest_33 : decode cX11_fewest 33 = .ok (.if_icmp .ge 7, 3) := by decide +kernel
theorem dX11_fewest_36 : decode cX11_fewest 36 = .ok (.iconst 1, 1) := by decide +kernel
theorem dX11_fewest_37 : decode cX11_fewest 37 = .ok (.goto 4, 3) := by decide +kernel
theorem dX11_fewest_40 : decode cX11_fewest 40 = .ok (.iconst 0, 1) := by decide +kernel
theorem dX11_fewest_41 : decode cX11_fewest 41 = .ok (.istore 4, 2) := by decide +kernel
theorem dX11_fewest_43 : decode cX11_fewest 43 = .ok (.iload 4, 2) := by decide +kernel
theorem dX11_fewest_45 : decode cX11_fewest 45 = .ok (.ifCond .eq 21, 3) := by decide +kernel
theorem dX11_fewest_48 : decode cX11_fewest 48 = .ok (.aload_n 0, 1) := by decide +kernel
theorem dX11_fewest_49 : decode cX11_fewest 49 = .ok (.getfield 50, 3) := by decide +kernel
theorem dX11_fewest_52 : decode cX11_fewest 52 = .ok (.aload_n 0, 1) := by decide +kernel
theorem dX11_fewest_53 : decode cX11_fewest 53 = .ok (.getfield 30, 3) := by decide +kernel
theorem dX11_fewest_56 : decode cX11_fewest 56 = .ok (.iload_n 3, 1) := by decide +kernel
theorem dX11_fewest_57 : decode cX11_fewest 57 = .ok (.invokevirtual 219, 3) := by decide +kernel
theorem dX11_fewest_60 : decode cX11_fewest 60 = .ok (.iload_n 1, 1) := by decide +kernel
theorem dX11_fewest_61 : decode cX11_fewest 61 = .ok (.if_icmp .ne 5, 3) := by decide +kernel
theorem dX11_fewest_64 : decode cX11_fewest 64 = .ok (.iload_n 3, 1) := by decide +kernel
theorem dX11_fewest_65 : decode cX11_fewest 65 = .ok (.istore_n 2, 1) := by decide +kernel
theorem dX11_fewest_66 : decode cX11_fewest 66 = .ok (.iinc 3 1, 3) := by decide +kernel
theorem dX11_fewest_69 : decode cX11_fewest 69 = .ok (.goto (-57), 3) := by decide +kernel
theorem dX11_fewest_72 : decode cX11_fewest 72 = .ok (.iload_n 2, 1) := by decide +kernel
theorem dX11_fewest_73 : decode cX11_fewest 73 = .ok (.ireturn, 1) := by decide +kernel
theorem dX11_stand_0 : decode cX11_stand 0 = .ok (.aload_n 0, 1) := by decide +kernel
theorem dX11_stand_1 : decode cX11_stand 1 = .ok (.iload_n 1, 1) := by decide +kernel
theorem dX11_stand_2 : decode cX11_stand 2 = .ok (.invokevirtual 128, 3) := by decide +kernel
theorem dX11_stand_5 : decode cX11_stand 5 = .ok (.ifCond .eq 12, 3) := by decide +kernel
theorem dX11_stand_8 : decode cX11_stand 8 = .ok (.iload_n 2, 1) := by decide +kernel
theorem dX11_stand_9 : decode cX11_stand 9 = .ok (.iconst 0, 1) := by decide +kernel
theorem dX11_stand_10 : decode cX11_stand 10 = .ok (.iconst 1, 1) := by decide +kernel
theorem dX11_stand_11 : decode cX11_stand 11 = .ok (.invokestatic 75, 3) := by decide +kernel
theorem dX11_stand_14 : decode cX11_stand 14 = .ok (.ifCond .ne 8, 3) := by decide +kernel
theorem dX11_stand_17 : decode cX11_stand 17 = .ok (.aload_n 0, 1) := by decide +kernel
theorem dX11_stand_18 : decode cX11_stand 18 = .ok (.invokevirtual 83, 3) := by decide +kernel
theorem dX11_stand_21 : decode cX11_stand 21 = .ok (.ireturn, 1) := by decide +kernel
theorem dX11_stand_22 : decode cX11_stand 22 = .ok (.aload_n 0, 1) := by decide +kernel
theorem dX11_stand_23 : decode cX11_stand 23 = .ok (.getfield 50, 3) := by decide +kernel
theorem dX11_stand_26 : decode cX11_stand 26 = .ok (.aload_n 0, 1) := by decide +kernel
theorem dX11_stand_27 : decode cX11_stand 27 = .ok (.getfield 30, 3) := by decide +kernel
theorem dX11_stand_30 : decode cX11_stand 30 = .ok (.iload_n 1, 1) := by decide +kernel
theorem dX11_stand_31 : decode cX11_stand 31 = .ok (.invokevirtual 231, 3) := by decide +kernel
theorem dX11_stand_34 : decode cX11_stand 34 = .ok (.istore_n 3, 1) := by decide +kernel
theorem dX11_stand_35 : decode cX11_stand 35 = .ok (.iload_n 2, 1) := by decide +kernel
theorem dX11_stand_36 : decode cX11_stand 36 = .ok (.ifCond .ne 7, 3) := by decide +kernel
theorem dX11_stand_39 : decode cX11_stand 39 = .ok (.iload_n 3, 1) := by decide +kernel
theorem dX11_stand_40 : decode cX11_stand 40 = .ok (.goto 10, 3) := by decide +kernel
theorem dX11_stand_43 : decode cX11_stand 43 = .ok (.aload_n 0, 1) := by decide +kernel
theorem dX11_stand_44 : decode cX11_stand 44 = .ok (.getfield 50, 3) := by decide +kernel
theorem dX11_stand_47 : decode cX11_stand 47 = .ok (.getfield 234, 3) := by decide +kernel
theorem dX11_stand_50 : decode cX11_stand 50 = .ok (.ireturn, 1) := by decide +kernel
theorem dX11_penny_0 : decode cX11_penny 0 = .ok (.aload_n 0, 1) := by decide +kernel
theorem dX11_penny_1 : decode cX11_penny 1 = .ok (.getfield 30, 3) := by decide +kernel
theorem dX11_penny_4 : decode cX11_penny 4 = .ok (.invokevirtual 237, 3) := by decide +kernel
theorem dX11_penny_7 : decode cX11_penny 7 = .ok (.istore_n 1, 1) := by decide +kernel
theorem dX11_penny_8 : decode cX11_penny 8 = .ok (.aload_n 0, 1) := by decide +kernel
theorem dX11_penny_9 : decode cX11_penny 9 = .ok (.getfield 30, 3) := by decide +kernel
theorem dX11_penny_12 : decode cX11_penny 12 = .ok (.invokevirtual 240, 3) := by decide +kernel
theorem dX11_penny_15 : decode cX11_penny 15 = .ok (.istore_n 2, 1) := by decide +kernel
theorem dX11_penny_16 : decode cX11_penny 16 = .ok (.iload_n 2, 1) := by decide +kernel
theorem dX11_penny_17 : decode cX11_penny 17 = .ok (.ifCond .gt 11, 3) := by decide +kernel
theorem dX11_penny_20 : decode cX11_penny 20 = .ok (.aload_n 0, 1) := by decide +kernel
theorem dX11_penny_21 : decode cX11_penny 21 = .ok (.lconst 0, 1) := by decide +kernel
theorem dX11_penny_22 : decode cX11_penny 22 = .ok (.lconst 1, 1) := by decide +kernel
theorem dX11_penny_23 : decode cX11_penny 23 = .ok (.invokevirtual 243, 3) := by decide +kernel
theorem dX11_penny_26 : decode cX11_penny 26 = .ok (.iconst 0, 1) := by decide +kernel
theorem dX11_penny_27 : decode cX11_penny 27 = .ok (.ireturn, 1) := by decide +kernel
theorem dX11_penny_28 : decode cX11_penny 28 = .ok (.aload_n 0, 1) := by decide +kernel
theorem dX11_penny_29 : decode cX11_penny 29 = .ok (.iload_n 1, 1) := by decide +kernel
theorem dX11_penny_30 : decode cX11_penny 30 = .ok (.i2l, 1) := by decide +kernel
theorem dX11_penny_31 : decode cX11_penny 31 = .ok (.iload_n 2, 1) := by decide +kernel
theorem dX11_penny_32 : decode cX11_penny 32 = .ok (.i2l, 1) := by decide +kernel
theorem dX11_penny_33 : decode cX11_penny 33 = .ok (.invokevirtual 243, 3) := by decide +kernel
theorem dX11_penny_36 : decode cX11_penny 36 = .ok (.iload_n 1, 1) := by decide +kernel
theorem dX11_penny_37 : decode cX11_penny 37 = .ok (.iload_n 2, 1) := by decide +kernel
theorem dX11_penny_38 : decode cX11_penny 38 = .ok (.iadd, 1) := by decide +kernel
theorem dX11_penny_39 : decode cX11_penny 39 = .ok (.iconst 1, 1) := by decide +kernel
theorem dX11_penny_40 : decode cX11_penny 40 = .ok (.isub, 1) := by decide +kernel
theorem dX11_penny_41 : decode cX11_penny 41 = .ok (.iload_n 2, 1) := by decide +kernel
theorem dX11_penny_42 : decode cX11_penny 42 = .ok (.idiv, 1) := by decide +kernel
theorem dX11_penny_43 : decode cX11_penny 43 = .ok (.ireturn, 1) := by decide +kernel
theorem dX11_cover_0 : decode cX11_cover 0 = .ok (.aload_n 0, 1) := by decide +kernel
theorem dX11_cover_1 : decode cX11_cover 1 = .ok (.iload_n 1, 1) := by decide +kernel
theorem dX11_cover_2 : decode cX11_cover 2 = .ok (.invokevirtual 128, 3) := by decide +kernel
theorem dX11_cover_5 : decode cX11_cover 5 = .ok (.ifCond .eq 17, 3) := by decide +kernel
theorem dX11_cover_8 : decode cX11_cover 8 = .ok (.iload_n 2, 1) := by decide +kernel
theorem dX11_cover_9 : decode cX11_cover 9 = .ok (.invokestatic 247, 3) := by decide +kernel
theorem dX11_cover_12 : decode cX11_cover 12 = .ok (.ifCond .eq 10, 3) := by decide +kernel
theorem dX11_cover_15 : decode cX11_cover 15 = .ok (.iload_n 3, 1) := by decide +kernel
theorem dX11_cover_16 : decode cX11_cover 16 = .ok (.invokestatic 79, 3) := by decide +kernel
theorem dX11_cover_19 : decode cX11_cover 19 = .ok (.ifCond .ne 8, 3) := by decide +kernel
theorem dX11_cover_22 : decode cX11_cover 22 = .ok (.aload_n 0, 1) := by decide +kernel
theorem dX11_cover_23 : decode cX11_cover 23 = .ok (.invokevirtual 83, 3) := by decide +kernel
theorem dX11_cover_26 : decode cX11_cover 26 = .ok (.ireturn, 1) := by decide +kernel
theorem dX11_cover_27 : decode cX11_cover 27 = .ok (.aload_n 0, 1) := by decide +kernel
theorem dX11_cover_28 : decode cX11_cover 28 = .ok (.getfield 30, 3) := by decide +kernel
theorem dX11_cover_31 : decode cX11_cover 31 = .ok (.getfield 250, 3) := by decide +kernel
theorem dX11_cover_34 : decode cX11_cover 34 = .ok (.iload_n 1, 1) := by decide +kernel
theorem dX11_cover_35 : decode cX11_cover 35 = .ok (.iload_n 2, 1) := by decide +kernel
theorem dX11_cover_36 : decode cX11_cover 36 = .ok (.iload_n 3, 1) := by decide +kernel
theorem dX11_cover_37 : decode cX11_cover 37 = .ok (.invokevirtual 254, 3) := by decide +kernel
theorem dX11_cover_40 : decode cX11_cover 40 = .ok (.ifCond .ne 8, 3) := by decide +kernel
theorem dX11_cover_43 : decode cX11_cover 43 = .ok (.aload_n 0, 1) := by decide +kernel
theorem dX11_cover_44 : decode cX11_cover 44 = .ok (.invokevirtual 87, 3) := by decide +kernel
theorem dX11_cover_47 : decode cX11_cover 47 = .ok (.ireturn, 1) := by decide +kernel
theorem dX11_cover_48 : decode cX11_cover 48 = .ok (.aload_n 0, 1) := by decide +kernel
theorem dX11_cover_49 : decode cX11_cover 49 = .ok (.getfield 30, 3) := by decide +kernel
theorem dX11_cover_52 : decode cX11_cover 52 = .ok (.getfield 250, 3) := by decide +kernel
theorem dX11_cover_55 : decode cX11_cover 55 = .ok (.getfield 259, 3) := by decide +kernel
theorem dX11_cover_58 : decode cX11_cover 58 = .ok (.ireturn, 1) := by decide +kernel
theorem dX11_note_0 : decode cX11_note 0 = .ok (.aload_n 0, 1) := by decide +kernel
theorem dX11_note_1 : decode cX11_note 1 = .ok (.iload_n 1, 1) := by decide +kernel
theorem dX11_note_2 : decode cX11_note 2 = .ok (.invokevirtual 128, 3) := by decide +kernel
theorem dX11_note_5 : decode cX11_note 5 = .ok (.ifCond .eq 20, 3) := by decide +kernel
theorem dX11_note_8 : decode cX11_note 8 = .ok (.iload_n 2, 1) := by decide +kernel
theorem dX11_note_9 : decode cX11_note 9 = .ok (.invokestatic 247, 3) := by decide +kernel
theorem dX11_note_12 : decode cX11_note 12 = .ok (.ifCond .eq 13, 3) := by decide +kernel
theorem dX11_note_15 : decode cX11_note 15 = .ok (.iload_n 3, 1) := by decide +kernel
theorem dX11_note_16 : decode cX11_note 16 = .ok (.iconst 0, 1) := by decide +kernel
theorem dX11_note_17 : decode cX11_note 17 = .ok (.bipush 20, 2) := by decide +kernel
theorem dX11_note_19 : decode cX11_note 19 = .ok (.invokestatic 75, 3) := by decide +kernel
theorem dX11_note_22 : decode cX11_note 22 = .ok (.ifCond .ne 8, 3) := by decide +kernel
theorem dX11_note_25 : decode cX11_note 25 = .ok (.aload_n 0, 1) := by decide +kernel
theorem dX11_note_26 : decode cX11_note 26 = .ok (.invokevirtual 83, 3) := by decide +kernel
theorem dX11_note_29 : decode cX11_note 29 = .ok (.ireturn, 1) := by decide +kernel
theorem dX11_note_30 : decode cX11_note 30 = .ok (.aload_n 0, 1) := by decide +kernel
theorem dX11_note_31 : decode cX11_note 31 = .ok (.getfield 30, 3) := by decide +kernel
theorem dX11_note_34 : decode cX11_note 34 = .ok (.getfield 262, 3) := by decide +kernel
theorem dX11_note_37 : decode cX11_note 37 = .ok (.iload_n 1, 1) := by decide +kernel
theorem dX11_note_38 : decode cX11_note 38 = .ok (.iload_n 2, 1) := by decide +kernel
theorem dX11_note_39 : decode cX11_note 39 = .ok (.iload_n 3, 1) := by decide +kernel
theorem dX11_note_40 : decode cX11_note 40 = .ok (.invokevirtual 254, 3) := by decide +kernel
theorem dX11_note_43 : decode cX11_note 43 = .ok (.ifCond .ne 8, 3) := by decide +kernel
theorem dX11_note_46 : decode cX11_note 46 = .ok (.aload_n 0, 1) := by decide +kernel
theorem dX11_note_47 : decode cX11_note 47 = .ok (.invokevirtual 87, 3) := by decide +kernel
theorem dX11_note_50 : decode cX11_note 50 = .ok (.ireturn, 1) := by decide +kernel
theorem dX11_note_51 : decode cX11_note 51 = .ok (.aload_n 0, 1) := by decide +kernel
theorem dX11_note_52 : decode cX11_note 52 = .ok (.getfield 30, 3) := by decide +kernel
theorem dX11_note_55 : decode cX11_note 55 = .ok (.getfield 262, 3) := by decide +kernel
theorem dX11_note_58 : decode cX11_note 58 = .ok (.getfield 259, 3) := by decide +kernel
theorem dX11_note_61 : decode cX11_note 61 = .ok (.ireturn, 1) := by decide +kernel
theorem dX11_forget_0 : decode cX11_forget 0 = .ok (.iload_n 1, 1) := by decide +kernel
theorem dX11_forget_1 : decode cX11_forget 1 = .ok (.iconst 0, 1) := by decide +kernel
theorem dX11_forget_2 : decode cX11_forget 2 = .ok (.iconst 1, 1) := by decide +kernel
theorem dX11_forget_3 : decode cX11_forget 3 = .ok (.invokestatic 75, 3) := by decide +kernel
theorem dX11_forget_6 : decode cX11_forget 6 = .ok (.ifCond .ne 8, 3) := by decide +kernel
theorem dX11_forget_9 : decode cX11_forget 9 = .ok (.aload_n 0, 1) := by decide +kernel
theorem dX11_forget_10 : decode cX11_forget 10 = .ok (.invokevirtual 83, 3) := by decide +kernel
theorem dX11_forget_13 : decode cX11_forget 13 = .ok (.ireturn, 1) := by decide +kernel
theorem dX11_forget_14 : decode cX11_forget 14 = .ok (.iload_n 1, 1) := by decide +kernel
theorem dX11_forget_15 : decode cX11_forget 15 = .ok (.ifCond .ne 13, 3) := by decide +kernel
theorem dX11_forget_18 : decode cX11_forget 18 = .ok (.aload_n 0, 1) := by decide +kernel
theorem dX11_forget_19 : decode cX11_forget 19 = .ok (.getfield 30, 3) := by decide +kernel
theorem dX11_forget_22 : decode cX11_forget 22 = .ok (.getfield 250, 3) := by decide +kernel
theorem dX11_forget_25 : decode cX11_forget 25 = .ok (.goto 10, 3) := by decide +kernel
theorem dX11_forget_28 : decode cX11_forget 28 = .ok (.aload_n 0, 1) := by decide +kernel
theorem dX11_forget_29 : decode cX11_forget 29 = .ok (.getfield 30, 3) := by decide +kernel
theorem dX11_forget_32 : decode cX11_forget 32 = .ok (.getfield 262, 3) := by decide +kernel
theorem dX11_forget_35 : decode cX11_forget 35 = .ok (.astore_n 2, 1) := by decide +kernel
theorem dX11_forget_36 : decode cX11_forget 36 = .ok (.aload_n 2, 1) := by decide +kernel
theorem dX11_forget_37 : decode cX11_forget 37 = .ok (.getfield 259, 3) := by decide +kernel
theorem dX11_forget_40 : decode cX11_forget 40 = .ok (.istore_n 3, 1) := by decide +kernel
theorem dX11_forget_41 : decode cX11_forget 41 = .ok (.aload_n 2, 1) := by decide +kernel
theorem dX11_forget_42 : decode cX11_forget 42 = .ok (.iconst 0, 1) := by decide +kernel
theorem dX11_forget_43 : decode cX11_forget 43 = .ok (.putfield 259, 3) := by decide +kernel
theorem dX11_forget_46 : decode cX11_forget 46 = .ok (.iload_n 3, 1) := by decide +kernel
theorem dX11_forget_47 : decode cX11_forget 47 = .ok (.ireturn, 1) := by decide +kernel
theorem dX11_where_0 : decode cX11_where 0 = .ok (.aload_n 0, 1) := by decide +kernel
theorem dX11_where_1 : decode cX11_where 1 = .ok (.iload_n 1, 1) := by decide +kernel
theorem dX11_where_2 : decode cX11_where 2 = .ok (.invokevirtual 128, 3) := by decide +kernel
theorem dX11_where_5 : decode cX11_where 5 = .ok (.ifCond .eq 19, 3) := by decide +kernel
theorem dX11_where_8 : decode cX11_where 8 = .ok (.iload_n 2, 1) := by decide +kernel
theorem dX11_where_9 : decode cX11_where 9 = .ok (.invokestatic 247, 3) := by decide +kernel
theorem dX11_where_12 : decode cX11_where 12 = .ok (.ifCond .eq 12, 3) := by decide +kernel
theorem dX11_where_15 : decode cX11_where 15 = .ok (.iload_n 3, 1) := by decide +kernel
theorem dX11_where_16 : decode cX11_where 16 = .ok (.iconst 0, 1) := by decide +kernel
theorem dX11_where_17 : decode cX11_where 17 = .ok (.iconst 1, 1) := by decide +kernel
theorem dX11_where_18 : decode cX11_where 18 = .ok (.invokestatic 75, 3) := by decide +kernel
theorem dX11_where_21 : decode cX11_where 21 = .ok (.ifCond .ne 8, 3) := by decide +kernel
theorem dX11_where_24 : decode cX11_where 24 = .ok (.aload_n 0, 1) := by decide +kernel
theorem dX11_where_25 : decode cX11_where 25 = .ok (.invokevirtual 83, 3) := by decide +kernel
theorem dX11_where_28 : decode cX11_where 28 = .ok (.ireturn, 1) := by decide +kernel
theorem dX11_where_29 : decode cX11_where 29 = .ok (.aload_n 0, 1) := by decide +kernel
theorem dX11_where_30 : decode cX11_where 30 = .ok (.getfield 30, 3) := by decide +kernel
theorem dX11_where_33 : decode cX11_where 33 = .ok (.getfield 250, 3) := by decide +kernel
theorem dX11_where_36 : decode cX11_where 36 = .ok (.iload_n 1, 1) := by decide +kernel
theorem dX11_where_37 : decode cX11_where 37 = .ok (.iload_n 2, 1) := by decide +kernel
theorem dX11_where_38 : decode cX11_where 38 = .ok (.invokevirtual 265, 3) := by decide +kernel
theorem dX11_where_41 : decode cX11_where 41 = .ok (.istore 4, 2) := by decide +kernel
theorem dX11_where_43 : decode cX11_where 43 = .ok (.aload_n 0, 1) := by decide +kernel
theorem dX11_where_44 : decode cX11_where 44 = .ok (.getfield 30, 3) := by decide +kernel
theorem dX11_where_47 : decode cX11_where 47 = .ok (.iload_n 1, 1) := by decide +kernel
theorem dX11_where_48 : decode cX11_where 48 = .ok (.invokevirtual 170, 3) := by decide +kernel
theorem dX11_where_51 : decode cX11_where 51 = .ok (.invokevirtual 183, 3) := by decide +kernel
theorem dX11_where_54 : decode cX11_where 54 = .ok (.istore 5, 2) := by decide +kernel
theorem dX11_where_56 : decode cX11_where 56 = .ok (.aload_n 0, 1) := by decide +kernel
theorem dX11_where_57 : decode cX11_where 57 = .ok (.getfield 30, 3) := by decide +kernel
theorem dX11_where_60 : decode cX11_where 60 = .ok (.getfield 250, 3) := by decide +kernel
theorem dX11_where_63 : decode cX11_where 63 = .ok (.iload 4, 2) := by decide +kernel
theorem dX11_where_65 : decode cX11_where 65 = .ok (.iload 5, 2) := by decide +kernel
theorem dX11_where_67 : decode cX11_where 67 = .ok (.invokevirtual 268, 3) := by decide +kernel
theorem dX11_where_70 : decode cX11_where 70 = .ok (.istore 6, 2) := by decide +kernel
theorem dX11_where_72 : decode cX11_where 72 = .ok (.iload_n 3, 1) := by decide +kernel
theorem dX11_where_73 : decode cX11_where 73 = .ok (.ifCond .ne 6, 3) := by decide +kernel
theorem dX11_where_76 : decode cX11_where 76 = .ok (.iload 6, 2) := by decide +kernel
theorem dX11_where_78 : decode cX11_where 78 = .ok (.ireturn, 1) := by decide +kernel
theorem dX11_where_79 : decode cX11_where 79 = .ok (.iload 6, 2) := by decide +kernel
theorem dX11_where_81 : decode cX11_where 81 = .ok (.ifCond .ne 7, 3) := by decide +kernel
theorem dX11_where_84 : decode cX11_where 84 = .ok (.iconst (-1), 1) := by decide +kernel
theorem dX11_where_85 : decode cX11_where 85 = .ok (.goto 17, 3) := by decide +kernel
theorem dX11_where_88 : decode cX11_where 88 = .ok (.aload_n 0, 1) := by decide +kernel
theorem dX11_where_89 : decode cX11_where 89 = .ok (.getfield 30, 3) := by decide +kernel
theorem dX11_where_92 : decode cX11_where 92 = .ok (.getfield 250, 3) := by decide +kernel
theorem dX11_where_95 : decode cX11_where 95 = .ok (.iload 4, 2) := by decide +kernel
theorem dX11_where_97 : decode cX11_where 97 = .ok (.iload 5, 2) := by decide +kernel
theorem dX11_where_99 : decode cX11_where 99 = .ok (.invokevirtual 271, 3) := by decide +kernel
theorem dX11_where_102 : decode cX11_where 102 = .ok (.ireturn, 1) := by decide +kernel
theorem dX11_look_0 : decode cX11_look 0 = .ok (.aload_n 0, 1) := by decide +kernel
theorem dX11_look_1 : decode cX11_look 1 = .ok (.iload_n 1, 1) := by decide +kernel
theorem dX11_look_2 : decode cX11_look 2 = .ok (.invokevirtual 128, 3) := by decide +kernel
theorem dX11_look_5 : decode cX11_look 5 = .ok (.ifCond .eq 10, 3) := by decide +kernel
theorem dX11_look_8 : decode cX11_look 8 = .ok (.iload_n 2, 1) := by decide +kernel
theorem dX11_look_9 : decode cX11_look 9 = .ok (.invokestatic 247, 3) := by decide +kernel
theorem dX11_look_12 : decode cX11_look 12 = .ok (.ifCond .ne 8, 3) := by decide +kernel
theorem dX11_look_15 : decode cX11_look 15 = .ok (.aload_n 0, 1) := by decide +kernel
theorem dX11_look_16 : decode cX11_look 16 = .ok (.invokevirtual 83, 3) := by decide +kernel
theorem dX11_look_19 : decode cX11_look 19 = .ok (.ireturn, 1) := by decide +kernel
theorem dX11_look_20 : decode cX11_look 20 = .ok (.aload_n 0, 1) := by decide +kernel
theorem dX11_look_21 : decode cX11_look 21 = .ok (.getfield 30, 3) := by decide +kernel
theorem dX11_look_24 : decode cX11_look 24 = .ok (.getfield 250, 3) := by decide +kernel
theorem dX11_look_27 : decode cX11_look 27 = .ok (.aload_n 0, 1) := by decide +kernel
theorem dX11_look_28 : decode cX11_look 28 = .ok (.getfield 30, 3) := by decide +kernel
theorem dX11_look_31 : decode cX11_look 31 = .ok (.getfield 250, 3) := by decide +kernel
theorem dX11_look_34 : decode cX11_look 34 = .ok (.iload_n 1, 1) := by decide +kernel
theorem dX11_look_35 : decode cX11_look 35 = .ok (.iload_n 2, 1) := by decide +kernel
theorem dX11_look_36 : decode cX11_look 36 = .ok (.invokevirtual 265, 3) := by decide +kernel
theorem dX11_look_39 : decode cX11_look 39 = .ok (.aload_n 0, 1) := by decide +kernel
theorem dX11_look_40 : decode cX11_look 40 = .ok (.getfield 30, 3) := by decide +kernel
theorem dX11_look_43 : decode cX11_look 43 = .ok (.iload_n 1, 1) := by decide +kernel
theorem dX11_look_44 : decode cX11_look 44 = .ok (.invokevirtual 170, 3) := by decide +kernel
theorem dX11_look_47 : decode cX11_look 47 = .ok (.invokevirtual 183, 3) := by decide +kernel
theorem dX11_look_50 : decode cX11_look 50 = .ok (.invokevirtual 274, 3) := by decide +kernel
theorem dX11_look_53 : decode cX11_look 53 = .ok (.ireturn, 1) := by decide +kernel
theorem dX11_forged_0 : decode cX11_forged 0 = .ok (.aload_n 0, 1) := by decide +kernel
theorem dX11_forged_1 : decode cX11_forged 1 = .ok (.iload_n 1, 1) := by decide +kernel
theorem dX11_forged_2 : decode cX11_forged 2 = .ok (.invokevirtual 128, 3) := by decide +kernel
theorem dX11_forged_5 : decode cX11_forged 5 = .ok (.ifCond .ne 8, 3) := by decide +kernel
theorem dX11_forged_8 : decode cX11_forged 8 = .ok (.aload_n 0, 1) := by decide +kernel
theorem dX11_forged_9 : decode cX11_forged 9 = .ok (.invokevirtual 83, 3) := by decide +kernel
theorem dX11_forged_12 : decode cX11_forged 12 = .ok (.ireturn, 1) := by decide +kernel
theorem dX11_forged_13 : decode cX11_forged 13 = .ok (.aload_n 0, 1) := by decide +kernel
theorem dX11_forged_14 : decode cX11_forged 14 = .ok (.getfield 30, 3) := by decide +kernel
theorem dX11_forged_17 : decode cX11_forged 17 = .ok (.getfield 250, 3) := by decide +kernel
theorem dX11_forged_20 : decode cX11_forged 20 = .ok (.iload_n 1, 1) := by decide +kernel
theorem dX11_forged_21 : decode cX11_forged 21 = .ok (.aload_n 0, 1) := by decide +kernel
theorem dX11_forged_22 : decode cX11_forged 22 = .ok (.getfield 30, 3) := by decide +kernel
theorem dX11_forged_25 : decode cX11_forged 25 = .ok (.iload_n 1, 1) := by decide +kernel
theorem dX11_forged_26 : decode cX11_forged 26 = .ok (.invokevirtual 170, 3) := by decide +kernel
theorem dX11_forged_29 : decode cX11_forged 29 = .ok (.invokevirtual 277, 3) := by decide +kernel
theorem dX11_forged_32 : decode cX11_forged 32 = .ok (.ireturn, 1) := by decide +kernel
theorem dX11_is_0 : decode cX11_is 0 = .ok (.aload_n 0, 1) := by decide +kernel
theorem dX11_is_1 : decode cX11_is 1 = .ok (.iload_n 1, 1) := by decide +kernel
theorem dX11_is_2 : decode cX11_is 2 = .ok (.invokevirtual 128, 3) := by decide +kernel
theorem dX11_is_5 : decode cX11_is 5 = .ok (.ifCond .ne 8, 3) := by decide +kernel
theorem dX11_is_8 : decode cX11_is 8 = .ok (.aload_n 0, 1) := by decide +kernel
theorem dX11_is_9 : decode cX11_is 9 = .ok (.invokevirtual 83, 3) := by decide +kernel
theorem dX11_is_12 : decode cX11_is 12 = .ok (.ireturn, 1) := by decide +kernel
theorem dX11_is_13 : decode cX11_is 13 = .ok (.aload_n 0, 1) := by decide +kernel
theorem dX11_is_14 : decode cX11_is 14 = .ok (.getfield 30, 3) := by decide +kernel
theorem dX11_is_17 : decode cX11_is 17 = .ok (.getfield 262, 3) := by decide +kernel
theorem dX11_is_20 : decode cX11_is 20 = .ok (.iload_n 1, 1) := by decide +kernel
theorem dX11_is_21 : decode cX11_is 21 = .ok (.aload_n 0, 1) := by decide +kernel
theorem dX11_is_22 : decode cX11_is 22 = .ok (.getfield 30, 3) := by decide +kernel
theorem dX11_is_25 : decode cX11_is 25 = .ok (.getfield 281, 3) := by decide +kernel
theorem dX11_is_28 : decode cX11_is 28 = .ok (.invokevirtual 285, 3) := by decide +kernel
theorem dX11_is_31 : decode cX11_is 31 = .ok (.ireturn, 1) := by decide +kernel
theorem dX11_sell_0 : decode cX11_sell 0 = .ok (.aload_n 0, 1) := by decide +kernel
theorem dX11_sell_1 : decode cX11_sell 1 = .ok (.iload_n 1, 1) := by decide +kernel
theorem dX11_sell_2 : decode cX11_sell 2 = .ok (.invokevirtual 128, 3) := by decide +kernel
theorem dX11_sell_5 : decode cX11_sell 5 = .ok (.ifCond .eq 24, 3) := by decide +kernel
theorem dX11_sell_8 : decode cX11_sell 8 = .ok (.aload_n 0, 1) := by decide +kernel
theorem dX11_sell_9 : decode cX11_sell 9 = .ok (.iload_n 2, 1) := by decide +kernel
theorem dX11_sell_10 : decode cX11_sell 10 = .ok (.invokevirtual 128, 3) := by decide +kernel
theorem dX11_sell_13 : decode cX11_sell 13 = .ok (.ifCond .eq 16, 3) := by decide +kernel
theorem dX11_sell_16 : decode cX11_sell 16 = .ok (.iload_n 1, 1) := by decide +kernel
theorem dX11_sell_17 : decode cX11_sell 17 = .ok (.iload_n 2, 1) := by decide +kernel
theorem dX11_sell_18 : decode cX11_sell 18 = .ok (.if_icmp .eq 11, 3) := by decide +kernel
theorem dX11_sell_21 : decode cX11_sell 21 = .ok (.aload_n 0, 1) := by decide +kernel
theorem dX11_sell_22 : decode cX11_sell 22 = .ok (.iload_n 3, 1) := by decide +kernel
theorem dX11_sell_23 : decode cX11_sell 23 = .ok (.invokevirtual 125, 3) := by decide +kernel
theorem dX11_sell_26 : decode cX11_sell 26 = .ok (.ifCond .ne 8, 3) := by decide +kernel
theorem dX11_sell_29 : decode cX11_sell 29 = .ok (.aload_n 0, 1) := by decide +kernel
theorem dX11_sell_30 : decode cX11_sell 30 = .ok (.invokevirtual 83, 3) := by decide +kernel
theorem dX11_sell_33 : decode cX11_sell 33 = .ok (.ireturn, 1) := by decide +kernel
theorem dX11_sell_34 : decode cX11_sell 34 = .ok (.aload_n 0, 1) := by decide +kernel
theorem dX11_sell_35 : decode cX11_sell 35 = .ok (.getfield 30, 3) := by decide +kernel
theorem dX11_sell_38 : decode cX11_sell 38 = .ok (.iload_n 3, 1) := by decide +kernel
theorem dX11_sell_39 : decode cX11_sell 39 = .ok (.invokevirtual 149, 3) := by decide +kernel
theorem dX11_sell_42 : decode cX11_sell 42 = .ok (.ifCond .ne 8, 3) := by decide +kernel
theorem dX11_sell_45 : decode cX11_sell 45 = .ok (.aload_n 0, 1) := by decide +kernel
theorem dX11_sell_46 : decode cX11_sell 46 = .ok (.invokevirtual 135, 3) := by decide +kernel
theorem dX11_sell_49 : decode cX11_sell 49 = .ok (.ireturn, 1) := by decide +kernel
theorem dX11_sell_50 : decode cX11_sell 50 = .ok (.aload_n 0, 1) := by decide +kernel
theorem dX11_sell_51 : decode cX11_sell 51 = .ok (.getfield 50, 3) := by decide +kernel
theorem dX11_sell_54 : decode cX11_sell 54 = .ok (.aload_n 0, 1) := by decide +kernel
theorem dX11_sell_55 : decode cX11_sell 55 = .ok (.getfield 30, 3) := by decide +kernel
theorem dX11_sell_58 : decode cX11_sell 58 = .ok (.iload_n 3, 1) := by decide +kernel
theorem dX11_sell_59 : decode cX11_sell 59 = .ok (.iload_n 1, 1) := by decide +kernel
theorem dX11_sell_60 : decode cX11_sell 60 = .ok (.invokevirtual 131, 3) := by decide +kernel
theorem dX11_sell_63 : decode cX11_sell 63 = .ok (.aload_n 0, 1) := by decide +kernel
theorem dX11_sell_64 : decode cX11_sell 64 = .ok (.getfield 30, 3) := by decide +kernel
theorem dX11_sell_67 : decode cX11_sell 67 = .ok (.iload_n 3, 1) := by decide +kernel
theorem dX11_sell_68 : decode cX11_sell 68 = .ok (.iload_n 2, 1) := by decide +kernel
theorem dX11_sell_69 : decode cX11_sell 69 = .ok (.invokevirtual 131, 3) := by decide +kernel
theorem dX11_sell_72 : decode cX11_sell 72 = .ok (.aload_n 0, 1) := by decide +kernel
theorem dX11_sell_73 : decode cX11_sell 73 = .ok (.getfield 30, 3) := by decide +kernel
theorem dX11_sell_76 : decode cX11_sell 76 = .ok (.iload_n 3, 1) := by decide +kernel
theorem dX11_sell_77 : decode cX11_sell 77 = .ok (.invokevirtual 145, 3) := by decide +kernel
theorem dX11_sell_80 : decode cX11_sell 80 = .ok (.invokevirtual 289, 3) := by decide +kernel
theorem dX11_sell_83 : decode cX11_sell 83 = .ok (.ireturn, 1) := by decide +kernel
theorem dX11_found_0 : decode cX11_found 0 = .ok (.iload_n 1, 1) := by decide +kernel
theorem dX11_found_1 : decode cX11_found 1 = .ok (.iconst 0, 1) := by decide +kernel
theorem dX11_found_2 : decode cX11_found 2 = .ok (.bipush 10, 2) := by decide +kernel
theorem dX11_found_4 : decode cX11_found 4 = .ok (.invokestatic 75, 3) := by decide +kernel
theorem dX11_found_7 : decode cX11_found 7 = .ok (.ifCond .ne 8, 3) := by decide +kernel
theorem dX11_found_10 : decode cX11_found 10 = .ok (.aload_n 0, 1) := by decide +kernel
theorem dX11_found_11 : decode cX11_found 11 = .ok (.invokevirtual 83, 3) := by decide +kernel
theorem dX11_found_14 : decode cX11_found 14 = .ok (.ireturn, 1) := by decide +kernel
theorem dX11_found_15 : decode cX11_found 15 = .ok (.aload_n 0, 1) := by decide +kernel
theorem dX11_found_16 : decode cX11_found 16 = .ok (.iload_n 1, 1) := by decide +kernel
theorem dX11_found_17 : decode cX11_found 17 = .ok (.i2l, 1) := by decide +kernel
theorem dX11_found_18 : decode cX11_found 18 = .ok (.aload_n 0, 1) := by decide +kernel
theorem dX11_found_19 : decode cX11_found 19 = .ok (.getfield 30, 3) := by decide +kernel
theorem dX11_found_22 : decode cX11_found 22 = .ok (.invokevirtual 293, 3) := by decide +kernel
theorem dX11_found_25 : decode cX11_found 25 = .ok (.i2l, 1) := by decide +kernel
theorem dX11_found_26 : decode cX11_found 26 = .ok (.lmul, 1) := by decide +kernel
theorem dX11_found_27 : decode cX11_found 27 = .ok (.ldc2_w 296, 3) := by decide +kernel
theorem dX11_found_30 : decode cX11_found 30 = .ok (.invokevirtual 243, 3) := by decide +kernel
theorem dX11_found_33 : decode cX11_found 33 = .ok (.iconst 1, 1) := by decide +kernel
theorem dX11_found_34 : decode cX11_found 34 = .ok (.ireturn, 1) := by decide +kernel
theorem dX11_sessions_0 : decode cX11_sessions 0 = .ok (.iload_n 1, 1) := by decide +kernel
theorem dX11_sessions_1 : decode cX11_sessions 1 = .ok (.iconst 0, 1) := by decide +kernel
theorem dX11_sessions_2 : decode cX11_sessions 2 = .ok (.ldc_w 298, 3) := by decide +kernel
theorem dX11_sessions_5 : decode cX11_sessions 5 = .ok (.invokestatic 75, 3) := by decide +kernel
theorem dX11_sessions_8 : decode cX11_sessions 8 = .ok (.ifCond .eq 13, 3) := by decide +kernel
theorem dX11_sessions_11 : decode cX11_sessions 11 = .ok (.iload_n 2, 1) := by decide +kernel
theorem dX11_sessions_12 : decode cX11_sessions 12 = .ok (.iconst 0, 1) := by decide +kernel
theorem dX11_sessions_13 : decode cX11_sessions 13 = .ok (.bipush 60, 2) := by decide +kernel
theorem dX11_sessions_15 : decode cX11_sessions 15 = .ok (.invokestatic 75, 3) := by decide +kernel
theorem dX11_sessions_18 : decode cX11_sessions 18 = .ok (.ifCond .ne 8, 3) := by decide +kernel
theorem dX11_sessions_21 : decode cX11_sessions 21 = .ok (.aload_n 0, 1) := by decide +kernel
theorem dX11_sessions_22 : decode cX11_sessions 22 = .ok (.invokevirtual 83, 3) := by decide +kernel
theorem dX11_sessions_25 : decode cX11_sessions 25 = .ok (.ireturn, 1) := by decide +kernel
theorem dX11_sessions_26 : decode cX11_sessions 26 = .ok (.aload_n 0, 1) := by decide +kernel
theorem dX11_sessions_27 : decode cX11_sessions 27 = .ok (.getfield 36, 3) := by decide +kernel
theorem dX11_sessions_30 : decode cX11_sessions 30 = .ok (.aload_n 0, 1) := by decide +kernel
theorem dX11_sessions_31 : decode cX11_sessions 31 = .ok (.getfield 30, 3) := by decide +kernel
theorem dX11_sessions_34 : decode cX11_sessions 34 = .ok (.invokevirtual 121, 3) := by decide +kernel
theorem dX11_sessions_37 : decode cX11_sessions 37 = .ok (.iload_n 1, 1) := by decide +kernel
theorem dX11_sessions_38 : decode cX11_sessions 38 = .ok (.i2l, 1) := by decide +kernel
theorem dX11_sessions_39 : decode cX11_sessions 39 = .ok (.lstore_n 3, 1) := by decide +kernel
theorem dX11_sessions_40 : decode cX11_sessions 40 = .ok (.iconst 0, 1) := by decide +kernel
theorem dX11_sessions_41 : decode cX11_sessions 41 = .ok (.istore 5, 2) := by decide +kernel
theorem dX11_sessions_43 : decode cX11_sessions 43 = .ok (.iload 5, 2) := by decide +kernel
theorem dX11_sessions_45 : decode cX11_sessions 45 = .ok (.iload_n 2, 1) := by decide +kernel
theorem dX11_sessions_46 : decode cX11_sessions 46 = .ok (.if_icmp .ge 113, 3) := by decide +kernel
theorem dX11_sessions_49 : decode cX11_sessions 49 = .ok (.lload_n 3, 1) := by decide +kernel
theorem dX11_sessions_50 : decode cX11_sessions 50 = .ok (.invokestatic 299, 3) := by decide +kernel
theorem dX11_sessions_53 : decode cX11_sessions 53 = .ok (.lstore_n 3, 1) := by decide +kernel
theorem dX11_sessions_54 : decode cX11_sessions 54 = .ok (.lload_n 3, 1) := by decide +kernel
theorem dX11_sessions_55 : decode cX11_sessions 55 = .ok (.ldc2_w 303, 3) := by decide +kernel
theorem dX11_sessions_58 : decode cX11_sessions 58 = .ok (.ldiv, 1) := by decide +kernel
theorem dX11_sessions_59 : decode cX11_sessions 59 = .ok (.ldc2_w 305, 3) := by decide +kernel
theorem dX11_sessions_62 : decode cX11_sessions 62 = .ok (.lrem, 1) := by decide +kernel
theorem dX11_sessions_63 : decode cX11_sessions 63 = .ok (.l2i, 1) := by decide +kernel
theorem dX11_sessions_64 : decode cX11_sessions 64 = .ok (.istore 6, 2) := by decide +kernel
theorem dX11_sessions_66 : decode cX11_sessions 66 = .ok (.lload_n 3, 1) := by decide +kernel
theorem dX11_sessions_67 : decode cX11_sessions 67 = .ok (.invokestatic 299, 3) := by decide +kernel
theorem dX11_sessions_70 : decode cX11_sessions 70 = .ok (.lstore_n 3, 1) := by decide +kernel
theorem dX11_sessions_71 : decode cX11_sessions 71 = .ok (.lload_n 3, 1) := by decide +kernel
theorem dX11_sessions_72 : decode cX11_sessions 72 = .ok (.ldc2_w 303, 3) := by decide +kernel
theorem dX11_sessions_75 : decode cX11_sessions 75 = .ok (.ldiv, 1) := by decide +kernel
theorem dX11_sessions_76 : decode cX11_sessions 76 = .ok (.ldc2_w 307, 3) := by decide +kernel
theorem dX11_sessions_79 : decode cX11_sessions 79 = .ok (.lrem, 1) := by decide +kernel
theorem dX11_sessions_80 : decode cX11_sessions 80 = .ok (.l2i, 1) := by decide +kernel
theorem dX11_sessions_81 : decode cX11_sessions 81 = .ok (.istore 7, 2) := by decide +kernel
theorem dX11_sessions_83 : decode cX11_sessions 83 = .ok (.iload 6, 2) := by decide +kernel
theorem dX11_sessions_85 : decode cX11_sessions 85 = .ok (.aload_n 0, 1) := by decide +kernel
theorem dX11_sessions_86 : decode cX11_sessions 86 = .ok (.getfield 36, 3) := by decide +kernel
theorem dX11_sessions_89 : decode cX11_sessions 89 = .ok (.getfield 101, 3) := by decide +kernel
theorem dX11_sessions_92 : decode cX11_sessions 92 = .ok (.if_icmp .ge 40, 3) := by decide +kernel
theorem dX11_sessions_95 : decode cX11_sessions 95 = .ok (.iload 7, 2) := by decide +kernel
theorem dX11_sessions_97 : decode cX11_sessions 97 = .ok (.aload_n 0, 1) := by decide +kernel
theorem dX11_sessions_98 : decode cX11_sessions 98 = .ok (.getfield 36, 3) := by decide +kernel
theorem dX11_sessions_101 : decode cX11_sessions 101 = .ok (.getfield 68, 3) := by decide +kernel
theorem dX11_sessions_104 : decode cX11_sessions 104 = .ok (.if_icmp .ge 28, 3) := by decide +kernel
theorem dX11_sessions_107 : decode cX11_sessions 107 = .ok (.aload_n 0, 1) := by decide +kernel
theorem dX11_sessions_108 : decode cX11_sessions 108 = .ok (.getfield 36, 3) := by decide +kernel
theorem dX11_sessions_111 : decode cX11_sessions 111 = .ok (.iload 6, 2) := by decide +kernel
theorem dX11_sessions_113 : decode cX11_sessions 113 = .ok (.iload 7, 2) := by decide +kernel
theorem dX11_sessions_115 : decode cX11_sessions 115 = .ok (.invokevirtual 131, 3) := by decide +kernel
theorem dX11_sessions_118 : decode cX11_sessions 118 = .ok (.ifCond .eq 14, 3) := by decide +kernel
theorem dX11_sessions_121 : decode cX11_sessions 121 = .ok (.aload_n 0, 1) := by decide +kernel
theorem dX11_sessions_122 : decode cX11_sessions 122 = .ok (.getfield 36, 3) := by decide +kernel
theorem dX11_sessions_125 : decode cX11_sessions 125 = .ok (.iload 6, 2) := by decide +kernel
theorem dX11_sessions_127 : decode cX11_sessions 127 = .ok (.iload 7, 2) := by decide +kernel
theorem dX11_sessions_129 : decode cX11_sessions 129 = .ok (.invokevirtual 141, 3) := by decide +kernel
theorem dX11_sessions_132 : decode cX11_sessions 132 = .ok (.lload_n 3, 1) := by decide +kernel
theorem dX11_sessions_133 : decode cX11_sessions 133 = .ok (.ldc2_w 309, 3) := by decide +kernel
theorem dX11_sessions_136 : decode cX11_sessions 136 = .ok (.ldiv, 1) := by decide +kernel
theorem dX11_sessions_137 : decode cX11_sessions 137 = .ok (.ldc2_w 311, 3) := by decide +kernel
theorem dX11_sessions_140 : decode cX11_sessions 140 = .ok (.lrem, 1) := by decide +kernel
theorem dX11_sessions_141 : decode cX11_sessions 141 = .ok (.lconst 0, 1) := by decide +kernel
theorem dX11_sessions_142 : decode cX11_sessions 142 = .ok (.lcmp, 1) := by decide +kernel
theorem dX11_sessions_143 : decode cX11_sessions 143 = .ok (.ifCond .ne 10, 3) := by decide +kernel
theorem dX11_sessions_146 : decode cX11_sessions 146 = .ok (.aload_n 0, 1) := by decide +kernel
theorem dX11_sessions_147 : decode cX11_sessions 147 = .ok (.getfield 36, 3) := by decide +kernel
theorem dX11_sessions_150 : decode cX11_sessions 150 = .ok (.invokevirtual 160, 3) := by decide +kernel
theorem dX11_sessions_153 : decode cX11_sessions 153 = .ok (.iinc 5 1, 3) := by decide +kernel
theorem dX11_sessions_156 : decode cX11_sessions 156 = .ok (.goto (-113), 3) := by decide +kernel
theorem dX11_sessions_159 : decode cX11_sessions 159 = .ok (.aload_n 0, 1) := by decide +kernel
theorem dX11_sessions_160 : decode cX11_sessions 160 = .ok (.getfield 36, 3) := by decide +kernel
theorem dX11_sessions_163 : decode cX11_sessions 163 = .ok (.getfield 204, 3) := by decide +kernel
theorem dX11_sessions_166 : decode cX11_sessions 166 = .ok (.aload_n 0, 1) := by decide +kernel
theorem dX11_sessions_167 : decode cX11_sessions 167 = .ok (.getfield 30, 3) := by decide +kernel
theorem dX11_sessions_170 : decode cX11_sessions 170 = .ok (.getfield 204, 3) := by decide +kernel
theorem dX11_sessions_173 : decode cX11_sessions 173 = .ok (.isub, 1) := by decide +kernel
theorem dX11_sessions_174 : decode cX11_sessions 174 = .ok (.ireturn, 1) := by decide +kernel
theorem dX11_part_0 : decode cX11_part 0 = .ok (.iload_n 1, 1) := by decide +kernel
theorem dX11_part_1 : decode cX11_part 1 = .ok (.lookupswitch 37 #[(0, 27), (1, 32)], 27) := by decide +kernel
theorem dX11_part_28 : decode cX11_part 28 = .ok (.aload_n 0, 1) := by decide +kernel
theorem dX11_part_29 : decode cX11_part 29 = .ok (.getfield 61, 3) := by decide +kernel
theorem dX11_part_32 : decode cX11_part 32 = .ok (.lreturn, 1) := by decide +kernel
theorem dX11_part_33 : decode cX11_part 33 = .ok (.aload_n 0, 1) := by decide +kernel
theorem dX11_part_34 : decode cX11_part 34 = .ok (.getfield 65, 3) := by decide +kernel
theorem dX11_part_37 : decode cX11_part 37 = .ok (.lreturn, 1) := by decide +kernel
theorem dX11_part_38 : decode cX11_part 38 = .ok (.aload_n 0, 1) := by decide +kernel
theorem dX11_part_39 : decode cX11_part 39 = .ok (.invokevirtual 83, 3) := by decide +kernel
theorem dX11_part_42 : decode cX11_part 42 = .ok (.i2l, 1) := by decide +kernel
theorem dX11_part_43 : decode cX11_part 43 = .ok (.lreturn, 1) := by decide +kernel
theorem dX11_image_0 : decode cX11_image 0 = .ok (.iload_n 1, 1) := by decide +kernel
theorem dX11_image_1 : decode cX11_image 1 = .ok (.iconst 0, 1) := by decide +kernel
theorem dX11_image_2 : decode cX11_image 2 = .ok (.iconst 1, 1) := by decide +kernel
theorem dX11_image_3 : decode cX11_image 3 = .ok (.invokestatic 75, 3) := by decide +kernel
theorem dX11_image_6 : decode cX11_image 6 = .ok (.ifCond .ne 8, 3) := by decide +kernel
theorem dX11_image_9 : decode cX11_image 9 = .ok (.aload_n 0, 1) := by decide +kernel
theorem dX11_image_10 : decode cX11_image 10 = .ok (.invokevirtual 83, 3) := by decide +kernel
theorem dX11_image_13 : decode cX11_image 13 = .ok (.ireturn, 1) := by decide +kernel
theorem dX11_image_14 : decode cX11_image 14 = .ok (.aload_n 0, 1) := by decide +kernel
theorem dX11_image_15 : decode cX11_image 15 = .ok (.getfield 39, 3) := by decide +kernel
theorem dX11_image_18 : decode cX11_image 18 = .ok (.iload_n 1, 1) := by decide +kernel
theorem dX11_image_19 : decode cX11_image 19 = .ok (.aaload, 1) := by decide +kernel
theorem dX11_image_20 : decode cX11_image 20 = .ok (.aload_n 0, 1) := by decide +kernel
theorem dX11_image_21 : decode cX11_image 21 = .ok (.getfield 30, 3) := by decide +kernel
theorem dX11_image_24 : decode cX11_image 24 = .ok (.invokevirtual 121, 3) := by decide +kernel
theorem dX11_image_27 : decode cX11_image 27 = .ok (.aload_n 0, 1) := by decide +kernel
theorem dX11_image_28 : decode cX11_image 28 = .ok (.getfield 43, 3) := by decide +kernel
theorem dX11_image_31 : decode cX11_image 31 = .ok (.iload_n 1, 1) := by decide +kernel
theorem dX11_image_32 : decode cX11_image 32 = .ok (.iconst 1, 1) := by decide +kernel
theorem dX11_image_33 : decode cX11_image 33 = .ok (.bastore, 1) := by decide +kernel
theorem dX11_image_34 : decode cX11_image 34 = .ok (.iconst 1, 1) := by decide +kernel
theorem dX11_image_35 : decode cX11_image 35 = .ok (.ireturn, 1) := by decide +kernel
theorem dX11_from_0 : decode cX11_from 0 = .ok (.iload_n 1, 1) := by decide +kernel
theorem dX11_from_1 : decode cX11_from 1 = .ok (.iconst 0, 1) := by decide +kernel
theorem dX11_from_2 : decode cX11_from 2 = .ok (.iconst 1, 1) := by decide +kernel
theorem dX11_from_3 : decode cX11_from 3 = .ok (.invokestatic 75, 3) := by decide +kernel
theorem dX11_from_6 : decode cX11_from 6 = .ok (.ifCond .ne 8, 3) := by decide +kernel
theorem dX11_from_9 : decode cX11_from 9 = .ok (.aload_n 0, 1) := by decide +kernel
theorem dX11_from_10 : decode cX11_from 10 = .ok (.invokevirtual 83, 3) := by decide +kernel
theorem dX11_from_13 : decode cX11_from 13 = .ok (.ireturn, 1) := by decide +kernel
theorem dX11_from_14 : decode cX11_from 14 = .ok (.aload_n 0, 1) := by decide +kernel
theorem dX11_from_15 : decode cX11_from 15 = .ok (.getfield 43, 3) := by decide +kernel
theorem dX11_from_18 : decode cX11_from 18 = .ok (.iload_n 1, 1) := by decide +kernel
theorem dX11_from_19 : decode cX11_from 19 = .ok (.baload, 1) := by decide +kernel
theorem dX11_from_20 : decode cX11_from 20 = .ok (.ifCond .ne 8, 3) := by decide +kernel
theorem dX11_from_23 : decode cX11_from 23 = .ok (.aload_n 0, 1) := by decide +kernel
theorem dX11_from_24 : decode cX11_from 24 = .ok (.invokevirtual 135, 3) := by decide +kernel
theorem dX11_from_27 : decode cX11_from 27 = .ok (.ireturn, 1) := by decide +kernel
theorem dX11_from_28 : decode cX11_from 28 = .ok (.aload_n 0, 1) := by decide +kernel
theorem dX11_from_29 : decode cX11_from 29 = .ok (.getfield 30, 3) := by decide +kernel
theorem dX11_from_32 : decode cX11_from 32 = .ok (.aload_n 0, 1) := by decide +kernel
theorem dX11_from_33 : decode cX11_from 33 = .ok (.getfield 39, 3) := by decide +kernel
theorem dX11_from_36 : decode cX11_from 36 = .ok (.iload_n 1, 1) := by decide +kernel
theorem dX11_from_37 : decode cX11_from 37 = .ok (.aaload, 1) := by decide +kernel
theorem dX11_from_38 : decode cX11_from 38 = .ok (.invokevirtual 121, 3) := by decide +kernel
theorem dX11_from_41 : decode cX11_from 41 = .ok (.iconst 1, 1) := by decide +kernel
theorem dX11_from_42 : decode cX11_from 42 = .ok (.ireturn, 1) := by decide +kernel
theorem dX11_status_0 : decode cX11_status 0 = .ok (.iload_n 1, 1) := by decide +kernel
theorem dX11_status_1 : decode cX11_status 1 = .ok (.tableswitch 42 0 2 #[27, 32, 37], 27) := by decide +kernel
theorem dX11_status_28 : decode cX11_status 28 = .ok (.aload_n 0, 1) := by decide +kernel
theorem dX11_status_29 : decode cX11_status 29 = .ok (.getfield 313, 3) := by decide +kernel
theorem dX11_status_32 : decode cX11_status 32 = .ok (.ireturn, 1) := by decide +kernel
theorem dX11_status_33 : decode cX11_status 33 = .ok (.aload_n 0, 1) := by decide +kernel
theorem dX11_status_34 : decode cX11_status 34 = .ok (.getfield 316, 3) := by decide +kernel
theorem dX11_status_37 : decode cX11_status 37 = .ok (.ireturn, 1) := by decide +kernel
theorem dX11_status_38 : decode cX11_status 38 = .ok (.aload_n 0, 1) := by decide +kernel
theorem dX11_status_39 : decode cX11_status 39 = .ok (.getfield 319, 3) := by decide +kernel
theorem dX11_status_42 : decode cX11_status 42 = .ok (.ireturn, 1) := by decide +kernel
theorem dX11_status_43 : decode cX11_status 43 = .ok (.aload_n 0, 1) := by decide +kernel
theorem dX11_status_44 : decode cX11_status 44 = .ok (.invokevirtual 83, 3) := by decide +kernel
theorem dX11_status_47 : decode cX11_status 47 = .ok (.pop, 1) := by decide +kernel
theorem dX11_status_48 : decode cX11_status 48 = .ok (.iconst (-1), 1) := by decide +kernel
theorem dX11_status_49 : decode cX11_status 49 = .ok (.ireturn, 1) := by decide +kernel
theorem dX11_count_0 : decode cX11_count 0 = .ok (.iload_n 1, 1) := by decide +kernel
theorem dX11_count_1 : decode cX11_count 1 = .ok (.iconst 0, 1) := by decide +kernel
theorem dX11_count_2 : decode cX11_count 2 = .ok (.bipush 7, 2) := by decide +kernel
theorem dX11_count_4 : decode cX11_count 4 = .ok (.invokestatic 75, 3) := by decide +kernel
theorem dX11_count_7 : decode cX11_count 7 = .ok (.ifCond .ne 8, 3) := by decide +kernel
theorem dX11_count_10 : decode cX11_count 10 = .ok (.aload_n 0, 1) := by decide +kernel
theorem dX11_count_11 : decode cX11_count 11 = .ok (.invokevirtual 83, 3) := by decide +kernel
theorem dX11_count_14 : decode cX11_count 14 = .ok (.ireturn, 1) := by decide +kernel
theorem dX11_count_15 : decode cX11_count 15 = .ok (.aload_n 0, 1) := by decide +kernel
theorem dX11_count_16 : decode cX11_count 16 = .ok (.iload_n 1, 1) := by decide +kernel
theorem dX11_count_17 : decode cX11_count 17 = .ok (.invokevirtual 322, 3) := by decide +kernel
theorem dX11_count_20 : decode cX11_count 20 = .ok (.ireturn, 1) := by decide +kernel
theorem dX11_digest_0 : decode cX11_digest 0 = .ok (.ldc2_w 325, 3) := by decide +kernel
theorem dX11_digest_3 : decode cX11_digest 3 = .ok (.lstore_n 1, 1) := by decide +kernel
theorem dX11_digest_4 : decode cX11_digest 4 = .ok (.iconst 0, 1) := by decide +kernel
theorem dX11_digest_5 : decode cX11_digest 5 = .ok (.istore_n 3, 1) := by decide +kernel
theorem dX11_digest_6 : decode cX11_digest 6 = .ok (.iload_n 3, 1) := by decide +kernel
theorem dX11_digest_7 : decode cX11_digest 7 = .ok (.bipush 7, 2) := by decide +kernel
theorem dX11_digest_9 : decode cX11_digest 9 = .ok (.if_icmp .gt 20, 3) := by decide +kernel
theorem dX11_digest_12 : decode cX11_digest 12 = .ok (.lload_n 1, 1) := by decide +kernel
theorem dX11_digest_13 : decode cX11_digest 13 = .ok (.aload_n 0, 1) := by decide +kernel
theorem dX11_digest_14 : decode cX11_digest 14 = .ok (.iload_n 3, 1) := by decide +kernel
theorem dX11_digest_15 : decode cX11_digest 15 = .ok (.invokevirtual 322, 3) := by decide +kernel
theorem dX11_digest_18 : decode cX11_digest 18 = .ok (.i2l, 1) := by decide +kernel
theorem dX11_digest_19 : decode cX11_digest 19 = .ok (.invokestatic 327, 3) := by decide +kernel
theorem dX11_digest_22 : decode cX11_digest 22 = .ok (.lstore_n 1, 1) := by decide +kernel
theorem dX11_digest_23 : decode cX11_digest 23 = .ok (.iinc 3 1, 3) := by decide +kernel
theorem dX11_digest_26 : decode cX11_digest 26 = .ok (.goto (-20), 3) := by decide +kernel
theorem dX11_digest_29 : decode cX11_digest 29 = .ok (.lload_n 1, 1) := by decide +kernel
theorem dX11_digest_30 : decode cX11_digest 30 = .ok (.aload_n 0, 1) := by decide +kernel
theorem dX11_digest_31 : decode cX11_digest 31 = .ok (.getfield 30, 3) := by decide +kernel
theorem dX11_digest_34 : decode cX11_digest 34 = .ok (.getfield 204, 3) := by decide +kernel
theorem dX11_digest_37 : decode cX11_digest 37 = .ok (.i2l, 1) := by decide +kernel
theorem dX11_digest_38 : decode cX11_digest 38 = .ok (.invokestatic 327, 3) := by decide +kernel
theorem dX11_digest_41 : decode cX11_digest 41 = .ok (.aload_n 0, 1) := by decide +kernel
theorem dX11_digest_42 : decode cX11_digest 42 = .ok (.getfield 30, 3) := by decide +kernel
theorem dX11_digest_45 : decode cX11_digest 45 = .ok (.getfield 207, 3) := by decide +kernel
theorem dX11_digest_48 : decode cX11_digest 48 = .ok (.i2l, 1) := by decide +kernel
theorem dX11_digest_49 : decode cX11_digest 49 = .ok (.invokestatic 327, 3) := by decide +kernel
theorem dX11_digest_52 : decode cX11_digest 52 = .ok (.lstore_n 1, 1) := by decide +kernel
theorem dX11_digest_53 : decode cX11_digest 53 = .ok (.iconst 0, 1) := by decide +kernel
theorem dX11_digest_54 : decode cX11_digest 54 = .ok (.istore_n 3, 1) := by decide +kernel
theorem dX11_digest_55 : decode cX11_digest 55 = .ok (.iload_n 3, 1) := by decide +kernel
theorem dX11_digest_56 : decode cX11_digest 56 = .ok (.aload_n 0, 1) := by decide +kernel
theorem dX11_digest_57 : decode cX11_digest 57 = .ok (.getfield 30, 3) := by decide +kernel
theorem dX11_digest_60 : decode cX11_digest 60 = .ok (.getfield 68, 3) := by decide +kernel
theorem dX11_digest_63 : decode cX11_digest 63 = .ok (.if_icmp .ge 50, 3) := by decide +kernel
theorem dX11_digest_66 : decode cX11_digest 66 = .ok (.lload_n 1, 1) := by decide +kernel
theorem dX11_digest_67 : decode cX11_digest 67 = .ok (.aload_n 0, 1) := by decide +kernel
theorem dX11_digest_68 : decode cX11_digest 68 = .ok (.getfield 30, 3) := by decide +kernel
theorem dX11_digest_71 : decode cX11_digest 71 = .ok (.getfield 174, 3) := by decide +kernel
theorem dX11_digest_74 : decode cX11_digest 74 = .ok (.iload_n 3, 1) := by decide +kernel
theorem dX11_digest_75 : decode cX11_digest 75 = .ok (.iaload, 1) := by decide +kernel
theorem dX11_digest_76 : decode cX11_digest 76 = .ok (.i2l, 1) := by decide +kernel
theorem dX11_digest_77 : decode cX11_digest 77 = .ok (.invokestatic 327, 3) := by decide +kernel
theorem dX11_digest_80 : decode cX11_digest 80 = .ok (.aload_n 0, 1) := by decide +kernel
theorem dX11_digest_81 : decode cX11_digest 81 = .ok (.getfield 30, 3) := by decide +kernel
theorem dX11_digest_84 : decode cX11_digest 84 = .ok (.getfield 156, 3) := by decide +kernel
theorem dX11_digest_87 : decode cX11_digest 87 = .ok (.iload_n 3, 1) := by decide +kernel
theorem dX11_digest_88 : decode cX11_digest 88 = .ok (.iaload, 1) := by decide +kernel
theorem dX11_digest_89 : decode cX11_digest 89 = .ok (.i2l, 1) := by decide +kernel
theorem dX11_digest_90 : decode cX11_digest 90 = .ok (.invokestatic 327, 3) := by decide +kernel
theorem dX11_digest_93 : decode cX11_digest 93 = .ok (.aload_n 0, 1) := by decide +kernel
theorem dX11_digest_94 : decode cX11_digest 94 = .ok (.getfield 30, 3) := by decide +kernel
theorem dX11_digest_97 : decode cX11_digest 97 = .ok (.getfield 177, 3) := by decide +kernel
theorem dX11_digest_100 : decode cX11_digest 100 = .ok (.iload_n 3, 1) := by decide +kernel
theorem dX11_digest_101 : decode cX11_digest 101 = .ok (.iaload, 1) := by decide +kernel
theorem dX11_digest_102 : decode cX11_digest 102 = .ok (.i2l, 1) := by decide +kernel
theorem dX11_digest_103 : decode cX11_digest 103 = .ok (.invokestatic 327, 3) := by decide +kernel
theorem dX11_digest_106 : decode cX11_digest 106 = .ok (.lstore_n 1, 1) := by decide +kernel
theorem dX11_digest_107 : decode cX11_digest 107 = .ok (.iinc 3 1, 3) := by decide +kernel
theorem dX11_digest_110 : decode cX11_digest 110 = .ok (.goto (-55), 3) := by decide +kernel
theorem dX11_digest_113 : decode cX11_digest 113 = .ok (.iconst 0, 1) := by decide +kernel
theorem dX11_digest_114 : decode cX11_digest 114 = .ok (.istore_n 3, 1) := by decide +kernel
theorem dX11_digest_115 : decode cX11_digest 115 = .ok (.iload_n 3, 1) := by decide +kernel
theorem dX11_digest_116 : decode cX11_digest 116 = .ok (.aload_n 0, 1) := by decide +kernel
theorem dX11_digest_117 : decode cX11_digest 117 = .ok (.getfield 30, 3) := by decide +kernel
theorem dX11_digest_120 : decode cX11_digest 120 = .ok (.getfield 101, 3) := by decide +kernel
theorem dX11_digest_123 : decode cX11_digest 123 = .ok (.if_icmp .ge 65, 3) := by decide +kernel
theorem dX11_digest_126 : decode cX11_digest 126 = .ok (.lload_n 1, 1) := by decide +kernel
theorem dX11_digest_127 : decode cX11_digest 127 = .ok (.aload_n 0, 1) := by decide +kernel
theorem dX11_digest_128 : decode cX11_digest 128 = .ok (.getfield 30, 3) := by decide +kernel
theorem dX11_digest_131 : decode cX11_digest 131 = .ok (.getfield 192, 3) := by decide +kernel
theorem dX11_digest_134 : decode cX11_digest 134 = .ok (.iload_n 3, 1) := by decide +kernel
theorem dX11_digest_135 : decode cX11_digest 135 = .ok (.iaload, 1) := by decide +kernel
theorem dX11_digest_136 : decode cX11_digest 136 = .ok (.i2l, 1) := by decide +kernel
theorem dX11_digest_137 : decode cX11_digest 137 = .ok (.invokestatic 327, 3) := by decide +kernel
theorem dX11_digest_140 : decode cX11_digest 140 = .ok (.aload_n 0, 1) := by decide +kernel
theorem dX11_digest_141 : decode cX11_digest 141 = .ok (.getfield 30, 3) := by decide +kernel
theorem dX11_digest_144 : decode cX11_digest 144 = .ok (.getfield 195, 3) := by decide +kernel
theorem dX11_digest_147 : decode cX11_digest 147 = .ok (.iload_n 3, 1) := by decide +kernel
theorem dX11_digest_148 : decode cX11_digest 148 = .ok (.iaload, 1) := by decide +kernel
theorem dX11_digest_149 : decode cX11_digest 149 = .ok (.i2l, 1) := by decide +kernel
theorem dX11_digest_150 : decode cX11_digest 150 = .ok (.invokestatic 327, 3) := by decide +kernel
theorem dX11_digest_153 : decode cX11_digest 153 = .ok (.lstore_n 1, 1) := by decide +kernel
theorem dX11_digest_154 : decode cX11_digest 154 = .ok (.lload_n 1, 1) := by decide +kernel
theorem dX11_digest_155 : decode cX11_digest 155 = .ok (.aload_n 0, 1) := by decide +kernel
theorem dX11_digest_156 : decode cX11_digest 156 = .ok (.getfield 30, 3) := by decide +kernel
theorem dX11_digest_159 : decode cX11_digest 159 = .ok (.getfield 198, 3) := by decide +kernel
theorem dX11_digest_162 : decode cX11_digest 162 = .ok (.iload_n 3, 1) := by decide +kernel
theorem dX11_digest_163 : decode cX11_digest 163 = .ok (.iaload, 1) := by decide +kernel
theorem dX11_digest_164 : decode cX11_digest 164 = .ok (.i2l, 1) := by decide +kernel
theorem dX11_digest_165 : decode cX11_digest 165 = .ok (.invokestatic 327, 3) := by decide +kernel
theorem dX11_digest_168 : decode cX11_digest 168 = .ok (.aload_n 0, 1) := by decide +kernel
theorem dX11_digest_169 : decode cX11_digest 169 = .ok (.getfield 30, 3) := by decide +kernel
theorem dX11_digest_172 : decode cX11_digest 172 = .ok (.getfield 201, 3) := by decide +kernel
theorem dX11_digest_175 : decode cX11_digest 175 = .ok (.iload_n 3, 1) := by decide +kernel
theorem dX11_digest_176 : decode cX11_digest 176 = .ok (.iaload, 1) := by decide +kernel
theorem dX11_digest_177 : decode cX11_digest 177 = .ok (.i2l, 1) := by decide +kernel
theorem dX11_digest_178 : decode cX11_digest 178 = .ok (.invokestatic 327, 3) := by decide +kernel
theorem dX11_digest_181 : decode cX11_digest 181 = .ok (.lstore_n 1, 1) := by decide +kernel
theorem dX11_digest_182 : decode cX11_digest 182 = .ok (.iinc 3 1, 3) := by decide +kernel
theorem dX11_digest_185 : decode cX11_digest 185 = .ok (.goto (-70), 3) := by decide +kernel
theorem dX11_digest_188 : decode cX11_digest 188 = .ok (.lload_n 1, 1) := by decide +kernel
theorem dX11_digest_189 : decode cX11_digest 189 = .ok (.aload_n 0, 1) := by decide +kernel
theorem dX11_digest_190 : decode cX11_digest 190 = .ok (.getfield 30, 3) := by decide +kernel
theorem dX11_digest_193 : decode cX11_digest 193 = .ok (.getfield 250, 3) := by decide +kernel
theorem dX11_digest_196 : decode cX11_digest 196 = .ok (.invokestatic 331, 3) := by decide +kernel
theorem dX11_digest_199 : decode cX11_digest 199 = .ok (.aload_n 0, 1) := by decide +kernel
theorem dX11_digest_200 : decode cX11_digest 200 = .ok (.getfield 30, 3) := by decide +kernel
theorem dX11_digest_203 : decode cX11_digest 203 = .ok (.getfield 262, 3) := by decide +kernel
theorem dX11_digest_206 : decode cX11_digest 206 = .ok (.invokestatic 331, 3) := by decide +kernel
theorem dX11_digest_209 : decode cX11_digest 209 = .ok (.lstore_n 1, 1) := by decide +kernel
theorem dX11_digest_210 : decode cX11_digest 210 = .ok (.lload_n 1, 1) := by decide +kernel
theorem dX11_digest_211 : decode cX11_digest 211 = .ok (.aload_n 0, 1) := by decide +kernel
theorem dX11_digest_212 : decode cX11_digest 212 = .ok (.getfield 61, 3) := by decide +kernel
theorem dX11_digest_215 : decode cX11_digest 215 = .ok (.invokestatic 327, 3) := by decide +kernel
theorem dX11_digest_218 : decode cX11_digest 218 = .ok (.aload_n 0, 1) := by decide +kernel
theorem dX11_digest_219 : decode cX11_digest 219 = .ok (.getfield 65, 3) := by decide +kernel
theorem dX11_digest_222 : decode cX11_digest 222 = .ok (.invokestatic 327, 3) := by decide +kernel
theorem dX11_digest_225 : decode cX11_digest 225 = .ok (.lreturn, 1) := by decide +kernel
theorem dX11_howMany_0 : decode cX11_howMany 0 = .ok (.iload_n 1, 1) := by decide +kernel
theorem dX11_howMany_1 : decode cX11_howMany 1 = .ok (.tableswitch 108 0 6 #[43, 51, 59, 67, 75, 86, 97], 43) := by decide +kernel
theorem dX11_howMany_44 : decode cX11_howMany 44 = .ok (.aload_n 0, 1) := by decide +kernel
theorem dX11_howMany_45 : decode cX11_howMany 45 = .ok (.getfield 30, 3) := by decide +kernel
theorem dX11_howMany_48 : decode cX11_howMany 48 = .ok (.getfield 68, 3) := by decide +kernel
theorem dX11_howMany_51 : decode cX11_howMany 51 = .ok (.ireturn, 1) := by decide +kernel
theorem dX11_howMany_52 : decode cX11_howMany 52 = .ok (.aload_n 0, 1) := by decide +kernel
theorem dX11_howMany_53 : decode cX11_howMany 53 = .ok (.getfield 30, 3) := by decide +kernel
theorem dX11_howMany_56 : decode cX11_howMany 56 = .ok (.getfield 101, 3) := by decide +kernel
theorem dX11_howMany_59 : decode cX11_howMany 59 = .ok (.ireturn, 1) := by decide +kernel
theorem dX11_howMany_60 : decode cX11_howMany 60 = .ok (.aload_n 0, 1) := by decide +kernel
theorem dX11_howMany_61 : decode cX11_howMany 61 = .ok (.getfield 30, 3) := by decide +kernel
theorem dX11_howMany_64 : decode cX11_howMany 64 = .ok (.getfield 163, 3) := by decide +kernel
theorem dX11_howMany_67 : decode cX11_howMany 67 = .ok (.ireturn, 1) := by decide +kernel
theorem dX11_howMany_68 : decode cX11_howMany 68 = .ok (.aload_n 0, 1) := by decide +kernel
theorem dX11_howMany_69 : decode cX11_howMany 69 = .ok (.getfield 30, 3) := by decide +kernel
theorem dX11_howMany_72 : decode cX11_howMany 72 = .ok (.invokevirtual 335, 3) := by decide +kernel
theorem dX11_howMany_75 : decode cX11_howMany 75 = .ok (.ireturn, 1) := by decide +kernel
theorem dX11_howMany_76 : decode cX11_howMany 76 = .ok (.aload_n 0, 1) := by decide +kernel
theorem dX11_howMany_77 : decode cX11_howMany 77 = .ok (.getfield 30, 3) := by decide +kernel
theorem dX11_howMany_80 : decode cX11_howMany 80 = .ok (.getfield 250, 3) := by decide +kernel
theorem dX11_howMany_83 : decode cX11_howMany 83 = .ok (.getfield 259, 3) := by decide +kernel
theorem dX11_howMany_86 : decode cX11_howMany 86 = .ok (.ireturn, 1) := by decide +kernel
theorem dX11_howMany_87 : decode cX11_howMany 87 = .ok (.aload_n 0, 1) := by decide +kernel
theorem dX11_howMany_88 : decode cX11_howMany 88 = .ok (.getfield 30, 3) := by decide +kernel
theorem dX11_howMany_91 : decode cX11_howMany 91 = .ok (.getfield 262, 3) := by decide +kernel
theorem dX11_howMany_94 : decode cX11_howMany 94 = .ok (.getfield 259, 3) := by decide +kernel
theorem dX11_howMany_97 : decode cX11_howMany 97 = .ok (.ireturn, 1) := by decide +kernel
theorem dX11_howMany_98 : decode cX11_howMany 98 = .ok (.aload_n 0, 1) := by decide +kernel
theorem dX11_howMany_99 : decode cX11_howMany 99 = .ok (.getfield 30, 3) := by decide +kernel
theorem dX11_howMany_102 : decode cX11_howMany 102 = .ok (.getfield 90, 3) := by decide +kernel
theorem dX11_howMany_105 : decode cX11_howMany 105 = .ok (.getfield 338, 3) := by decide +kernel
theorem dX11_howMany_108 : decode cX11_howMany 108 = .ok (.ireturn, 1) := by decide +kernel
theorem dX11_howMany_109 : decode cX11_howMany 109 = .ok (.aload_n 0, 1) := by decide +kernel
theorem dX11_howMany_110 : decode cX11_howMany 110 = .ok (.getfield 57, 3) := by decide +kernel
theorem dX11_howMany_113 : decode cX11_howMany 113 = .ok (.getfield 111, 3) := by decide +kernel
theorem dX11_howMany_116 : decode cX11_howMany 116 = .ok (.ireturn, 1) := by decide +kernel
theorem dX11_mix_0 : decode cX11_mix 0 = .ok (.ldc2_w 339, 3) := by decide +kernel
theorem dX11_mix_3 : decode cX11_mix 3 = .ok (.lload_n 0, 1) := by decide +kernel
theorem dX11_mix_4 : decode cX11_mix 4 = .ok (.lmul, 1) := by decide +kernel
theorem dX11_mix_5 : decode cX11_mix 5 = .ok (.lload_n 2, 1) := by decide +kernel
theorem dX11_mix_6 : decode cX11_mix 6 = .ok (.ladd, 1) := by decide +kernel
theorem dX11_mix_7 : decode cX11_mix 7 = .ok (.lreturn, 1) := by decide +kernel
theorem dX11_mixSlips_0 : decode cX11_mixSlips 0 = .ok (.lload_n 0, 1) := by decide +kernel
theorem dX11_mixSlips_1 : decode cX11_mixSlips 1 = .ok (.lstore_n 3, 1) := by decide +kernel
theorem dX11_mixSlips_2 : decode cX11_mixSlips 2 = .ok (.iconst 0, 1) := by decide +kernel
theorem dX11_mixSlips_3 : decode cX11_mixSlips 3 = .ok (.istore 5, 2) := by decide +kernel
theorem dX11_mixSlips_5 : decode cX11_mixSlips 5 = .ok (.iload 5, 2) := by decide +kernel
theorem dX11_mixSlips_7 : decode cX11_mixSlips 7 = .ok (.aload_n 2, 1) := by decide +kernel
theorem dX11_mixSlips_8 : decode cX11_mixSlips 8 = .ok (.getfield 259, 3) := by decide +kernel
theorem dX11_mixSlips_11 : decode cX11_mixSlips 11 = .ok (.if_icmp .ge 44, 3) := by decide +kernel
theorem dX11_mixSlips_14 : decode cX11_mixSlips 14 = .ok (.lload_n 3, 1) := by decide +kernel
theorem dX11_mixSlips_15 : decode cX11_mixSlips 15 = .ok (.aload_n 2, 1) := by decide +kernel
theorem dX11_mixSlips_16 : decode cX11_mixSlips 16 = .ok (.getfield 341, 3) := by decide +kernel
theorem dX11_mixSlips_19 : decode cX11_mixSlips 19 = .ok (.iload 5, 2) := by decide +kernel
theorem dX11_mixSlips_21 : decode cX11_mixSlips 21 = .ok (.iaload, 1) := by decide +kernel
theorem dX11_mixSlips_22 : decode cX11_mixSlips 22 = .ok (.i2l, 1) := by decide +kernel
theorem dX11_mixSlips_23 : decode cX11_mixSlips 23 = .ok (.invokestatic 327, 3) := by decide +kernel
theorem dX11_mixSlips_26 : decode cX11_mixSlips 26 = .ok (.aload_n 2, 1) := by decide +kernel
theorem dX11_mixSlips_27 : decode cX11_mixSlips 27 = .ok (.getfield 344, 3) := by decide +kernel
theorem dX11_mixSlips_30 : decode cX11_mixSlips 30 = .ok (.iload 5, 2) := by decide +kernel
theorem dX11_mixSlips_32 : decode cX11_mixSlips 32 = .ok (.iaload, 1) := by decide +kernel
theorem dX11_mixSlips_33 : decode cX11_mixSlips 33 = .ok (.i2l, 1) := by decide +kernel
theorem dX11_mixSlips_34 : decode cX11_mixSlips 34 = .ok (.invokestatic 327, 3) := by decide +kernel
theorem dX11_mixSlips_37 : decode cX11_mixSlips 37 = .ok (.aload_n 2, 1) := by decide +kernel
theorem dX11_mixSlips_38 : decode cX11_mixSlips 38 = .ok (.getfield 347, 3) := by decide +kernel
theorem dX11_mixSlips_41 : decode cX11_mixSlips 41 = .ok (.iload 5, 2) := by decide +kernel
theorem dX11_mixSlips_43 : decode cX11_mixSlips 43 = .ok (.iaload, 1) := by decide +kernel
theorem dX11_mixSlips_44 : decode cX11_mixSlips 44 = .ok (.i2l, 1) := by decide +kernel
theorem dX11_mixSlips_45 : decode cX11_mixSlips 45 = .ok (.invokestatic 327, 3) := by decide +kernel
theorem dX11_mixSlips_48 : decode cX11_mixSlips 48 = .ok (.lstore_n 3, 1) := by decide +kernel
theorem dX11_mixSlips_49 : decode cX11_mixSlips 49 = .ok (.iinc 5 1, 3) := by decide +kernel
theorem dX11_mixSlips_52 : decode cX11_mixSlips 52 = .ok (.goto (-47), 3) := by decide +kernel
theorem dX11_mixSlips_55 : decode cX11_mixSlips 55 = .ok (.lload_n 3, 1) := by decide +kernel
theorem dX11_mixSlips_56 : decode cX11_mixSlips 56 = .ok (.lreturn, 1) := by decide +kernel
theorem dX11_nextX_0 : decode cX11_nextX 0 = .ok (.lload_n 0, 1) := by decide +kernel
theorem dX11_nextX_1 : decode cX11_nextX 1 = .ok (.ldc2_w 350, 3) := by decide +kernel
theorem dX11_nextX_4 : decode cX11_nextX 4 = .ok (.lmul, 1) := by decide +kernel
theorem dX11_nextX_5 : decode cX11_nextX 5 = .ok (.ldc2_w 352, 3) := by decide +kernel
theorem dX11_nextX_8 : decode cX11_nextX 8 = .ok (.ladd, 1) := by decide +kernel
theorem dX11_nextX_9 : decode cX11_nextX 9 = .ok (.ldc2_w 354, 3) := by decide +kernel
theorem dX11_nextX_12 : decode cX11_nextX 12 = .ok (.lrem, 1) := by decide +kernel
theorem dX11_nextX_13 : decode cX11_nextX 13 = .ok (.lreturn, 1) := by decide +kernel
theorem dX11_within_0 : decode cX11_within 0 = .ok (.iload_n 0, 1) := by decide +kernel
theorem dX11_within_1 : decode cX11_within 1 = .ok (.iload_n 1, 1) := by decide +kernel
theorem dX11_within_2 : decode cX11_within 2 = .ok (.if_icmp .lt 12, 3) := by decide +kernel
theorem dX11_within_5 : decode cX11_within 5 = .ok (.iload_n 0, 1) := by decide +kernel
theorem dX11_within_6 : decode cX11_within 6 = .ok (.iload_n 2, 1) := by decide +kernel
theorem dX11_within_7 : decode cX11_within 7 = .ok (.if_icmp .gt 7, 3) := by decide +kernel
theorem dX11_within_10 : decode cX11_within 10 = .ok (.iconst 1, 1) := by decide +kernel
theorem dX11_within_11 : decode cX11_within 11 = .ok (.goto 4, 3) := by decide +kernel
theorem dX11_within_14 : decode cX11_within 14 = .ok (.iconst 0, 1) := by decide +kernel
theorem dX11_within_15 : decode cX11_within 15 = .ok (.ireturn, 1) := by decide +kernel
theorem dX11_isPlace_0 : decode cX11_isPlace 0 = .ok (.iload_n 0, 1) := by decide +kernel
theorem dX11_isPlace_1 : decode cX11_isPlace 1 = .ok (.iconst 0, 1) := by decide +kernel
theorem dX11_isPlace_2 : decode cX11_isPlace 2 = .ok (.bipush 99, 2) := by decide +kernel
theorem dX11_isPlace_4 : decode cX11_isPlace 4 = .ok (.invokestatic 75, 3) := by decide +kernel
theorem dX11_isPlace_7 : decode cX11_isPlace 7 = .ok (.ireturn, 1) := by decide +kernel
theorem dX11_isSlipDay_0 : decode cX11_isSlipDay 0 = .ok (.iload_n 0, 1) := by decide +kernel
theorem dX11_isSlipDay_1 : decode cX11_isSlipDay 1 = .ok (.iconst 0, 1) := by decide +kernel
theorem dX11_isSlipDay_2 : decode cX11_isSlipDay 2 = .ok (.bipush 99, 2) := by decide +kernel
theorem dX11_isSlipDay_4 : decode cX11_isSlipDay 4 = .ok (.invokestatic 75, 3) := by decide +kernel
theorem dX11_isSlipDay_7 : decode cX11_isSlipDay 7 = .ok (.ireturn, 1) := by decide +kernel
theorem dX11_isMember_0 : decode cX11_isMember 0 = .ok (.iload_n 1, 1) := by decide +kernel
theorem dX11_isMember_1 : decode cX11_isMember 1 = .ok (.iconst 0, 1) := by decide +kernel
theorem dX11_isMember_2 : decode cX11_isMember 2 = .ok (.aload_n 0, 1) := by decide +kernel
theorem dX11_isMember_3 : decode cX11_isMember 3 = .ok (.getfield 30, 3) := by decide +kernel
theorem dX11_isMember_6 : decode cX11_isMember 6 = .ok (.getfield 68, 3) := by decide +kernel
theorem dX11_isMember_9 : decode cX11_isMember 9 = .ok (.iconst 1, 1) := by decide +kernel
theorem dX11_isMember_10 : decode cX11_isMember 10 = .ok (.isub, 1) := by decide +kernel
theorem dX11_isMember_11 : decode cX11_isMember 11 = .ok (.invokestatic 75, 3) := by decide +kernel
theorem dX11_isMember_14 : decode cX11_isMember 14 = .ok (.ireturn, 1) := by decide +kernel
theorem dX11_isLetter_0 : decode cX11_isLetter 0 = .ok (.iload_n 1, 1) := by decide +kernel
theorem dX11_isLetter_1 : decode cX11_isLetter 1 = .ok (.iconst 0, 1) := by decide +kernel
theorem dX11_isLetter_2 : decode cX11_isLetter 2 = .ok (.aload_n 0, 1) := by decide +kernel
theorem dX11_isLetter_3 : decode cX11_isLetter 3 = .ok (.getfield 30, 3) := by decide +kernel
theorem dX11_isLetter_6 : decode cX11_isLetter 6 = .ok (.getfield 101, 3) := by decide +kernel
theorem dX11_isLetter_9 : decode cX11_isLetter 9 = .ok (.iconst 1, 1) := by decide +kernel
theorem dX11_isLetter_10 : decode cX11_isLetter 10 = .ok (.isub, 1) := by decide +kernel
theorem dX11_isLetter_11 : decode cX11_isLetter 11 = .ok (.invokestatic 75, 3) := by decide +kernel
theorem dX11_isLetter_14 : decode cX11_isLetter 14 = .ok (.ireturn, 1) := by decide +kernel
theorem dX11_everyMember_0 : decode cX11_everyMember 0 = .ok (.iconst 1, 1) := by decide +kernel
theorem dX11_everyMember_1 : decode cX11_everyMember 1 = .ok (.aload_n 0, 1) := by decide +kernel
theorem dX11_everyMember_2 : decode cX11_everyMember 2 = .ok (.getfield 30, 3) := by decide +kernel
theorem dX11_everyMember_5 : decode cX11_everyMember 5 = .ok (.getfield 68, 3) := by decide +kernel
theorem dX11_everyMember_8 : decode cX11_everyMember 8 = .ok (.ishl, 1) := by decide +kernel
theorem dX11_everyMember_9 : decode cX11_everyMember 9 = .ok (.iconst 1, 1) := by decide +kernel
theorem dX11_everyMember_10 : decode cX11_everyMember 10 = .ok (.isub, 1) := by decide +kernel
theorem dX11_everyMember_11 : decode cX11_everyMember 11 = .ok (.ireturn, 1) := by decide +kernel
theorem dX11_refuseBad_0 : decode cX11_refuseBad 0 = .ok (.aload_n 0, 1) := by decide +kernel
theorem dX11_refuseBad_1 : decode cX11_refuseBad 1 = .ok (.dup, 1) := by decide +kernel
theorem dX11_refuseBad_2 : decode cX11_refuseBad 2 = .ok (.getfield 313, 3) := by decide +kernel
theorem dX11_refuseBad_5 : decode cX11_refuseBad 5 = .ok (.iconst 1, 1) := by decide +kernel
theorem dX11_refuseBad_6 : decode cX11_refuseBad 6 = .ok (.iadd, 1) := by decide +kernel
theorem dX11_refuseBad_7 : decode cX11_refuseBad 7 = .ok (.putfield 313, 3) := by decide +kernel
theorem dX11_refuseBad_10 : decode cX11_refuseBad 10 = .ok (.bipush (-2), 2) := by decide +kernel
theorem dX11_refuseBad_12 : decode cX11_refuseBad 12 = .ok (.ireturn, 1) := by decide +kernel
theorem dX11_refuseOtherBad_0 : decode cX11_refuseOtherBad 0 = .ok (.aload_n 0, 1) := by decide +kernel
theorem dX11_refuseOtherBad_1 : decode cX11_refuseOtherBad 1 = .ok (.dup, 1) := by decide +kernel
theorem dX11_refuseOtherBad_2 : decode cX11_refuseOtherBad 2 = .ok (.getfield 313, 3) := by decide +kernel
theorem dX11_refuseOtherBad_5 : decode cX11_refuseOtherBad 5 = .ok (.iconst 1, 1) := by decide +kernel
theorem dX11_refuseOtherBad_6 : decode cX11_refuseOtherBad 6 = .ok (.iadd, 1) := by decide +kernel
theorem dX11_refuseOtherBad_7 : decode cX11_refuseOtherBad 7 = .ok (.putfield 313, 3) := by decide +kernel
theorem dX11_refuseOtherBad_10 : decode cX11_refuseOtherBad 10 = .ok (.bipush (-10), 2) := by decide +kernel
theorem dX11_refuseOtherBad_12 : decode cX11_refuseOtherBad 12 = .ok (.ireturn, 1) := by decide +kernel
theorem dX11_refuseNo_0 : decode cX11_refuseNo 0 = .ok (.aload_n 0, 1) := by decide +kernel
theorem dX11_refuseNo_1 : decode cX11_refuseNo 1 = .ok (.dup, 1) := by decide +kernel
theorem dX11_refuseNo_2 : decode cX11_refuseNo 2 = .ok (.getfield 316, 3) := by decide +kernel
theorem dX11_refuseNo_5 : decode cX11_refuseNo 5 = .ok (.iconst 1, 1) := by decide +kernel
theorem dX11_refuseNo_6 : decode cX11_refuseNo 6 = .ok (.iadd, 1) := by decide +kernel
theorem dX11_refuseNo_7 : decode cX11_refuseNo 7 = .ok (.putfield 316, 3) := by decide +kernel
theorem dX11_refuseNo_10 : decode cX11_refuseNo 10 = .ok (.bipush (-3), 2) := by decide +kernel
theorem dX11_refuseNo_12 : decode cX11_refuseNo 12 = .ok (.ireturn, 1) := by decide +kernel
theorem dX11_refuseFull_0 : decode cX11_refuseFull 0 = .ok (.aload_n 0, 1) := by decide +kernel
theorem dX11_refuseFull_1 : decode cX11_refuseFull 1 = .ok (.dup, 1) := by decide +kernel
theorem dX11_refuseFull_2 : decode cX11_refuseFull 2 = .ok (.getfield 319, 3) := by decide +kernel
theorem dX11_refuseFull_5 : decode cX11_refuseFull 5 = .ok (.iconst 1, 1) := by decide +kernel
theorem dX11_refuseFull_6 : decode cX11_refuseFull 6 = .ok (.iadd, 1) := by decide +kernel
theorem dX11_refuseFull_7 : decode cX11_refuseFull 7 = .ok (.putfield 319, 3) := by decide +kernel
theorem dX11_refuseFull_10 : decode cX11_refuseFull 10 = .ok (.bipush (-4), 2) := by decide +kernel
theorem dX11_refuseFull_12 : decode cX11_refuseFull 12 = .ok (.ireturn, 1) := by decide +kernel
theorem dX11_setFraction_0 : decode cX11_setFraction 0 = .ok (.lload_n 1, 1) := by decide +kernel
theorem dX11_setFraction_1 : decode cX11_setFraction 1 = .ok (.lload_n 3, 1) := by decide +kernel
theorem dX11_setFraction_2 : decode cX11_setFraction 2 = .ok (.invokestatic 356, 3) := by decide +kernel
theorem dX11_setFraction_5 : decode cX11_setFraction 5 = .ok (.lstore 5, 2) := by decide +kernel
theorem dX11_setFraction_7 : decode cX11_setFraction 7 = .ok (.lload 5, 2) := by decide +kernel
theorem dX11_setFraction_9 : decode cX11_setFraction 9 = .ok (.lconst 0, 1) := by decide +kernel
theorem dX11_setFraction_10 : decode cX11_setFraction 10 = .ok (.lcmp, 1) := by decide +kernel
theorem dX11_setFraction_11 : decode cX11_setFraction 11 = .ok (.ifCond .le 19, 3) := by decide +kernel
theorem dX11_setFraction_14 : decode cX11_setFraction 14 = .ok (.aload_n 0, 1) := by decide +kernel
theorem dX11_setFraction_15 : decode cX11_setFraction 15 = .ok (.lload_n 1, 1) := by decide +kernel
theorem dX11_setFraction_16 : decode cX11_setFraction 16 = .ok (.lload 5, 2) := by decide +kernel
theorem dX11_setFraction_18 : decode cX11_setFraction 18 = .ok (.ldiv, 1) := by decide +kernel
theorem dX11_setFraction_19 : decode cX11_setFraction 19 = .ok (.putfield 61, 3) := by decide +kernel
theorem dX11_setFraction_22 : decode cX11_setFraction 22 = .ok (.aload_n 0, 1) := by decide +kernel
theorem dX11_setFraction_23 : decode cX11_setFraction 23 = .ok (.lload_n 3, 1) := by decide +kernel
theorem dX11_setFraction_24 : decode cX11_setFraction 24 = .ok (.lload 5, 2) := by decide +kernel
theorem dX11_setFraction_26 : decode cX11_setFraction 26 = .ok (.ldiv, 1) := by decide +kernel
theorem dX11_setFraction_27 : decode cX11_setFraction 27 = .ok (.putfield 65, 3) := by decide +kernel
theorem dX11_setFraction_30 : decode cX11_setFraction 30 = .ok (.return_, 1) := by decide +kernel
theorem dX11_commonDivisor_0 : decode cX11_commonDivisor 0 = .ok (.lload_n 0, 1) := by decide +kernel
theorem dX11_commonDivisor_1 : decode cX11_commonDivisor 1 = .ok (.lstore 4, 2) := by decide +kernel
theorem dX11_commonDivisor_3 : decode cX11_commonDivisor 3 = .ok (.lload_n 2, 1) := by decide +kernel
theorem dX11_commonDivisor_4 : decode cX11_commonDivisor 4 = .ok (.lstore 6, 2) := by decide +kernel
theorem dX11_commonDivisor_6 : decode cX11_commonDivisor 6 = .ok (.iconst 0, 1) := by decide +kernel
theorem dX11_commonDivisor_7 : decode cX11_commonDivisor 7 = .ok (.istore 8, 2) := by decide +kernel
theorem dX11_commonDivisor_9 : decode cX11_commonDivisor 9 = .ok (.iload 8, 2) := by decide +kernel
theorem dX11_commonDivisor_11 : decode cX11_commonDivisor 11 = .ok (.bipush 100, 2) := by decide +kernel
theorem dX11_commonDivisor_13 : decode cX11_commonDivisor 13 = .ok (.if_icmp .ge 31, 3) := by decide +kernel
theorem dX11_commonDivisor_16 : decode cX11_commonDivisor 16 = .ok (.lload 6, 2) := by decide +kernel
theorem dX11_commonDivisor_18 : decode cX11_commonDivisor 18 = .ok (.lconst 0, 1) := by decide +kernel
theorem dX11_commonDivisor_19 : decode cX11_commonDivisor 19 = .ok (.lcmp, 1) := by decide +kernel
theorem dX11_commonDivisor_20 : decode cX11_commonDivisor 20 = .ok (.ifCond .eq 24, 3) := by decide +kernel
theorem dX11_commonDivisor_23 : decode cX11_commonDivisor 23 = .ok (.lload 4, 2) := by decide +kernel
theorem dX11_commonDivisor_25 : decode cX11_commonDivisor 25 = .ok (.lload 6, 2) := by decide +kernel
theorem dX11_commonDivisor_27 : decode cX11_commonDivisor 27 = .ok (.lrem, 1) := by decide +kernel
theorem dX11_commonDivisor_28 : decode cX11_commonDivisor 28 = .ok (.lstore 9, 2) := by decide +kernel
theorem dX11_commonDivisor_30 : decode cX11_commonDivisor 30 = .ok (.lload 6, 2) := by decide +kernel
theorem dX11_commonDivisor_32 : decode cX11_commonDivisor 32 = .ok (.lstore 4, 2) := by decide +kernel
theorem dX11_commonDivisor_34 : decode cX11_commonDivisor 34 = .ok (.lload 9, 2) := by decide +kernel
theorem dX11_commonDivisor_36 : decode cX11_commonDivisor 36 = .ok (.lstore 6, 2) := by decide +kernel
theorem dX11_commonDivisor_38 : decode cX11_commonDivisor 38 = .ok (.iinc 8 1, 3) := by decide +kernel
theorem dX11_commonDivisor_41 : decode cX11_commonDivisor 41 = .ok (.goto (-32), 3) := by decide +kernel
theorem dX11_commonDivisor_44 : decode cX11_commonDivisor 44 = .ok (.lload 4, 2) := by decide +kernel
theorem dX11_commonDivisor_46 : decode cX11_commonDivisor 46 = .ok (.lreturn, 1) := by decide +kernel
theorem dX12_init_0 : decode cX12_init 0 = .ok (.aload_n 0, 1) := by decide +kernel
theorem dX12_init_1 : decode cX12_init 1 = .ok (.invokespecial 1, 3) := by decide +kernel
theorem dX12_init_4 : decode cX12_init 4 = .ok (.aload_n 0, 1) := by decide +kernel
theorem dX12_init_5 : decode cX12_init 5 = .ok (.sipush 235, 3) := by decide +kernel
theorem dX12_init_8 : decode cX12_init 8 = .ok (.newarray .int, 2) := by decide +kernel
theorem dX12_init_10 : decode cX12_init 10 = .ok (.putfield 7, 3) := by decide +kernel
theorem dX12_init_13 : decode cX12_init 13 = .ok (.aload_n 0, 1) := by decide +kernel
theorem dX12_init_14 : decode cX12_init 14 = .ok (.sipush 470, 3) := by decide +kernel
theorem dX12_init_17 : decode cX12_init 17 = .ok (.newarray .int, 2) := by decide +kernel
theorem dX12_init_19 : decode cX12_init 19 = .ok (.putfield 13, 3) := by decide +kernel
theorem dX12_init_22 : decode cX12_init 22 = .ok (.aload_n 0, 1) := by decide +kernel
theorem dX12_init_23 : decode cX12_init 23 = .ok (.iconst 2, 1) := by decide +kernel
theorem dX12_init_24 : decode cX12_init 24 = .ok (.newarray .boolean, 2) := by decide +kernel
theorem dX12_init_26 : decode cX12_init 26 = .ok (.putfield 16, 3) := by decide +kernel
theorem dX12_init_29 : decode cX12_init 29 = .ok (.aload_n 0, 1) := by decide +kernel
theorem dX12_init_30 : decode cX12_init 30 = .ok (.iconst 3, 1) := by decide +kernel
theorem dX12_init_31 : decode cX12_init 31 = .ok (.newarray .int, 2) := by decide +kernel
theorem dX12_init_33 : decode cX12_init 33 = .ok (.putfield 20, 3) := by decide +kernel
theorem dX12_init_36 : decode cX12_init 36 = .ok (.aload_n 0, 1) := by decide +kernel
theorem dX12_init_37 : decode cX12_init 37 = .ok (.lconst 1, 1) := by decide +kernel
theorem dX12_init_38 : decode cX12_init 38 = .ok (.putfield 23, 3) := by decide +kernel
theorem dX12_init_41 : decode cX12_init 41 = .ok (.aload_n 0, 1) := by decide +kernel
theorem dX12_init_42 : decode cX12_init 42 = .ok (.bipush 6, 2) := by decide +kernel
theorem dX12_init_44 : decode cX12_init 44 = .ok (.newarray .int, 2) := by decide +kernel
theorem dX12_init_46 : decode cX12_init 46 = .ok (.putfield 27, 3) := by decide +kernel
theorem dX12_init_49 : decode cX12_init 49 = .ok (.aload_n 0, 1) := by decide +kernel
theorem dX12_init_50 : decode cX12_init 50 = .ok (.bipush 6, 2) := by decide +kernel
theorem dX12_init_52 : decode cX12_init 52 = .ok (.newarray .int, 2) := by decide +kernel
theorem dX12_init_54 : decode cX12_init 54 = .ok (.putfield 30, 3) := by decide +kernel
theorem dX12_init_57 : decode cX12_init 57 = .ok (.aload_n 0, 1) := by decide +kernel
theorem dX12_init_58 : decode cX12_init 58 = .ok (.iconst 5, 1) := by decide +kernel
theorem dX12_init_59 : decode cX12_init 59 = .ok (.newarray .int, 2) := by decide +kernel
theorem dX12_init_61 : decode cX12_init 61 = .ok (.putfield 33, 3) := by decide +kernel
theorem dX12_init_64 : decode cX12_init 64 = .ok (.aload_n 0, 1) := by decide +kernel
theorem dX12_init_65 : decode cX12_init 65 = .ok (.bipush 6, 2) := by decide +kernel
theorem dX12_init_67 : decode cX12_init 67 = .ok (.newarray .int, 2) := by decide +kernel
theorem dX12_init_69 : decode cX12_init 69 = .ok (.putfield 36, 3) := by decide +kernel
theorem dX12_init_72 : decode cX12_init 72 = .ok (.aload_n 0, 1) := by decide +kernel
theorem dX12_init_73 : decode cX12_init 73 = .ok (.iconst 4, 1) := by decide +kernel
theorem dX12_init_74 : decode cX12_init 74 = .ok (.newarray .int, 2) := by decide +kernel
theorem dX12_init_76 : decode cX12_init 76 = .ok (.putfield 39, 3) := by decide +kernel
theorem dX12_init_79 : decode cX12_init 79 = .ok (.aload_n 0, 1) := by decide +kernel
theorem dX12_init_80 : decode cX12_init 80 = .ok (.iconst 4, 1) := by decide +kernel
theorem dX12_init_81 : decode cX12_init 81 = .ok (.newarray .int, 2) := by decide +kernel
theorem dX12_init_83 : decode cX12_init 83 = .ok (.putfield 42, 3) := by decide +kernel
theorem dX12_init_86 : decode cX12_init 86 = .ok (.aload_n 0, 1) := by decide +kernel
theorem dX12_init_87 : decode cX12_init 87 = .ok (.bipush 83, 2) := by decide +kernel
theorem dX12_init_89 : decode cX12_init 89 = .ok (.newarray .int, 2) := by decide +kernel
theorem dX12_init_91 : decode cX12_init 91 = .ok (.putfield 45, 3) := by decide +kernel
theorem dX12_init_94 : decode cX12_init 94 = .ok (.aload_n 0, 1) := by decide +kernel
theorem dX12_init_95 : decode cX12_init 95 = .ok (.sipush 150, 3) := by decide +kernel
theorem dX12_init_98 : decode cX12_init 98 = .ok (.newarray .int, 2) := by decide +kernel
theorem dX12_init_100 : decode cX12_init 100 = .ok (.putfield 48, 3) := by decide +kernel
theorem dX12_init_103 : decode cX12_init 103 = .ok (.aload_n 0, 1) := by decide +kernel
theorem dX12_init_104 : decode cX12_init 104 = .ok (.bipush 83, 2) := by decide +kernel
theorem dX12_init_106 : decode cX12_init 106 = .ok (.newarray .int, 2) := by decide +kernel
theorem dX12_init_108 : decode cX12_init 108 = .ok (.putfield 51, 3) := by decide +kernel
theorem dX12_init_111 : decode cX12_init 111 = .ok (.aload_n 0, 1) := by decide +kernel
theorem dX12_init_112 : decode cX12_init 112 = .ok (.iconst 3, 1) := by decide +kernel
theorem dX12_init_113 : decode cX12_init 113 = .ok (.newarray .int, 2) := by decide +kernel
theorem dX12_init_115 : decode cX12_init 115 = .ok (.putfield 54, 3) := by decide +kernel
theorem dX12_init_118 : decode cX12_init 118 = .ok (.aload_n 0, 1) := by decide +kernel
theorem dX12_init_119 : decode cX12_init 119 = .ok (.getfield 7, 3) := by decide +kernel
theorem dX12_init_122 : decode cX12_init 122 = .ok (.invokestatic 57, 3) := by decide +kernel
theorem dX12_init_125 : decode cX12_init 125 = .ok (.return_, 1) := by decide +kernel
theorem dX12_in_0 : decode cX12_in 0 = .ok (.lload_n 0, 1) := by decide +kernel
theorem dX12_in_1 : decode cX12_in 1 = .ok (.lload_n 2, 1) := by decide +kernel
theorem dX12_in_2 : decode cX12_in 2 = .ok (.lcmp, 1) := by decide +kernel
theorem dX12_in_3 : decode cX12_in 3 = .ok (.ifCond .lt 14, 3) := by decide +kernel
theorem dX12_in_6 : decode cX12_in 6 = .ok (.lload_n 0, 1) := by decide +kernel
theorem dX12_in_7 : decode cX12_in 7 = .ok (.lload 4, 2) := by decide +kernel
theorem dX12_in_9 : decode cX12_in 9 = .ok (.lcmp, 1) := by decide +kernel
theorem dX12_in_10 : decode cX12_in 10 = .ok (.ifCond .gt 7, 3) := by decide +kernel
theorem dX12_in_13 : decode cX12_in 13 = .ok (.iconst 1, 1) := by decide +kernel
theorem dX12_in_14 : decode cX12_in 14 = .ok (.goto 4, 3) := by decide +kernel
theorem dX12_in_17 : decode cX12_in 17 = .ok (.iconst 0, 1) := by decide +kernel
theorem dX12_in_18 : decode cX12_in 18 = .ok (.ireturn, 1) := by decide +kernel
theorem dX12_bad_0 : decode cX12_bad 0 = .ok (.aload_n 0, 1) := by decide +kernel
theorem dX12_bad_1 : decode cX12_bad 1 = .ok (.getfield 20, 3) := by decide +kernel
theorem dX12_bad_4 : decode cX12_bad 4 = .ok (.iconst 0, 1) := by decide +kernel
theorem dX12_bad_5 : decode cX12_bad 5 = .ok (.dup2, 1) := by decide +kernel
theorem dX12_bad_6 : decode cX12_bad 6 = .ok (.iaload, 1) := by decide +kernel
theorem dX12_bad_7 : decode cX12_bad 7 = .ok (.iconst 1, 1) := by decide +kernel
theorem dX12_bad_8 : decode cX12_bad 8 = .ok (.iadd, 1) := by decide +kernel
theorem dX12_bad_9 : decode cX12_bad 9 = .ok (.iastore, 1) := by decide +kernel
theorem dX12_bad_10 : decode cX12_bad 10 = .ok (.iload_n 1, 1) := by decide +kernel
theorem dX12_bad_11 : decode cX12_bad 11 = .ok (.ireturn, 1) := by decide +kernel
theorem dX12_no_0 : decode cX12_no 0 = .ok (.aload_n 0, 1) := by decide +kernel
theorem dX12_no_1 : decode cX12_no 1 = .ok (.getfield 20, 3) := by decide +kernel
theorem dX12_no_4 : decode cX12_no 4 = .ok (.iconst 1, 1) := by decide +kernel
theorem dX12_no_5 : decode cX12_no 5 = .ok (.dup2, 1) := by decide +kernel
theorem dX12_no_6 : decode cX12_no 6 = .ok (.iaload, 1) := by decide +kernel
theorem dX12_no_7 : decode cX12_no 7 = .ok (.iconst 1, 1) := by decide +kernel
theorem dX12_no_8 : decode cX12_no 8 = .ok (.iadd, 1) := by decide +kernel
theorem dX12_no_9 : decode cX12_no 9 = .ok (.iastore, 1) := by decide +kernel
theorem dX12_no_10 : decode cX12_no 10 = .ok (.bipush (-3), 2) := by decide +kernel
theorem dX12_no_12 : decode cX12_no 12 = .ok (.ireturn, 1) := by decide +kernel
theorem dX12_full_0 : decode cX12_full 0 = .ok (.aload_n 0, 1) := by decide +kernel
theorem dX12_full_1 : decode cX12_full 1 = .ok (.getfield 20, 3) := by decide +kernel
theorem dX12_full_4 : decode cX12_full 4 = .ok (.iconst 2, 1) := by decide +kernel
theorem dX12_full_5 : decode cX12_full 5 = .ok (.dup2, 1) := by decide +kernel
theorem dX12_full_6 : decode cX12_full 6 = .ok (.iaload, 1) := by decide +kernel
theorem dX12_full_7 : decode cX12_full 7 = .ok (.iconst 1, 1) := by decide +kernel
theorem dX12_full_8 : decode cX12_full 8 = .ok (.iadd, 1) := by decide +kernel
theorem dX12_full_9 : decode cX12_full 9 = .ok (.iastore, 1) := by decide +kernel
theorem dX12_full_10 : decode cX12_full 10 = .ok (.bipush (-4), 2) := by decide +kernel
theorem dX12_full_12 : decode cX12_full 12 = .ok (.ireturn, 1) := by decide +kernel
theorem dX12_bits_0 : decode cX12_bits 0 = .ok (.iconst 0, 1) := by decide +kernel
theorem dX12_bits_1 : decode cX12_bits 1 = .ok (.istore_n 1, 1) := by decide +kernel
theorem dX12_bits_2 : decode cX12_bits 2 = .ok (.iload_n 0, 1) := by decide +kernel
theorem dX12_bits_3 : decode cX12_bits 3 = .ok (.istore_n 2, 1) := by decide +kernel
theorem dX12_bits_4 : decode cX12_bits 4 = .ok (.iload_n 2, 1) := by decide +kernel
theorem dX12_bits_5 : decode cX12_bits 5 = .ok (.ifCond .le 16, 3) := by decide +kernel
theorem dX12_bits_8 : decode cX12_bits 8 = .ok (.iload_n 1, 1) := by decide +kernel
theorem dX12_bits_9 : decode cX12_bits 9 = .ok (.iload_n 2, 1) := by decide +kernel
theorem dX12_bits_10 : decode cX12_bits 10 = .ok (.iconst 1, 1) := by decide +kernel
theorem dX12_bits_11 : decode cX12_bits 11 = .ok (.iand, 1) := by decide +kernel
theorem dX12_bits_12 : decode cX12_bits 12 = .ok (.iadd, 1) := by decide +kernel
theorem dX12_bits_13 : decode cX12_bits 13 = .ok (.istore_n 1, 1) := by decide +kernel
theorem dX12_bits_14 : decode cX12_bits 14 = .ok (.iload_n 2, 1) := by decide +kernel
theorem dX12_bits_15 : decode cX12_bits 15 = .ok (.iconst 1, 1) := by decide +kernel
theorem dX12_bits_16 : decode cX12_bits 16 = .ok (.ishr, 1) := by decide +kernel
theorem dX12_bits_17 : decode cX12_bits 17 = .ok (.istore_n 2, 1) := by decide +kernel
theorem dX12_bits_18 : decode cX12_bits 18 = .ok (.goto (-14), 3) := by decide +kernel
theorem dX12_bits_21 : decode cX12_bits 21 = .ok (.iload_n 1, 1) := by decide +kernel
theorem dX12_bits_22 : decode cX12_bits 22 = .ok (.ireturn, 1) := by decide +kernel
theorem dX12_has_0 : decode cX12_has 0 = .ok (.iload_n 0, 1) := by decide +kernel
theorem dX12_has_1 : decode cX12_has 1 = .ok (.iload_n 1, 1) := by decide +kernel
theorem dX12_has_2 : decode cX12_has 2 = .ok (.ishr, 1) := by decide +kernel
theorem dX12_has_3 : decode cX12_has 3 = .ok (.iconst 1, 1) := by decide +kernel
theorem dX12_has_4 : decode cX12_has 4 = .ok (.iand, 1) := by decide +kernel
theorem dX12_has_5 : decode cX12_has 5 = .ok (.iconst 1, 1) := by decide +kernel
theorem dX12_has_6 : decode cX12_has 6 = .ok (.if_icmp .ne 7, 3) := by decide +kernel
theorem dX12_has_9 : decode cX12_has 9 = .ok (.iconst 1, 1) := by decide +kernel
theorem dX12_has_10 : decode cX12_has 10 = .ok (.goto 4, 3) := by decide +kernel
theorem dX12_has_13 : decode cX12_has 13 = .ok (.iconst 0, 1) := by decide +kernel
theorem dX12_has_14 : decode cX12_has 14 = .ok (.ireturn, 1) := by decide +kernel
theorem dX12_begin_0 : decode cX12_begin 0 = .ok (.iconst 0, 1) := by decide +kernel
theorem dX12_begin_1 : decode cX12_begin 1 = .ok (.istore_n 1, 1) := by decide +kernel
theorem dX12_begin_2 : decode cX12_begin 2 = .ok (.iload_n 1, 1) := by decide +kernel
theorem dX12_begin_3 : decode cX12_begin 3 = .ok (.bipush 83, 2) := by decide +kernel
theorem dX12_begin_5 : decode cX12_begin 5 = .ok (.if_icmp .ge 13, 3) := by decide +kernel
theorem dX12_begin_8 : decode cX12_begin 8 = .ok (.aload_n 0, 1) := by decide +kernel
theorem dX12_begin_9 : decode cX12_begin 9 = .ok (.iload_n 1, 1) := by decide +kernel
theorem dX12_begin_10 : decode cX12_begin 10 = .ok (.iconst 0, 1) := by decide +kernel
theorem dX12_begin_11 : decode cX12_begin 11 = .ok (.iastore, 1) := by decide +kernel
theorem dX12_begin_12 : decode cX12_begin 12 = .ok (.iinc 1 1, 3) := by decide +kernel
theorem dX12_begin_15 : decode cX12_begin 15 = .ok (.goto (-13), 3) := by decide +kernel
theorem dX12_begin_18 : decode cX12_begin 18 = .ok (.iconst 0, 1) := by decide +kernel
theorem dX12_begin_19 : decode cX12_begin 19 = .ok (.istore_n 1, 1) := by decide +kernel
theorem dX12_begin_20 : decode cX12_begin 20 = .ok (.iload_n 1, 1) := by decide +kernel
theorem dX12_begin_21 : decode cX12_begin 21 = .ok (.bipush 6, 2) := by decide +kernel
theorem dX12_begin_23 : decode cX12_begin 23 = .ok (.if_icmp .ge 15, 3) := by decide +kernel
theorem dX12_begin_26 : decode cX12_begin 26 = .ok (.aload_n 0, 1) := by decide +kernel
theorem dX12_begin_27 : decode cX12_begin 27 = .ok (.iconst 5, 1) := by decide +kernel
theorem dX12_begin_28 : decode cX12_begin 28 = .ok (.iload_n 1, 1) := by decide +kernel
theorem dX12_begin_29 : decode cX12_begin 29 = .ok (.iadd, 1) := by decide +kernel
theorem dX12_begin_30 : decode cX12_begin 30 = .ok (.iconst (-1), 1) := by decide +kernel
theorem dX12_begin_31 : decode cX12_begin 31 = .ok (.iastore, 1) := by decide +kernel
theorem dX12_begin_32 : decode cX12_begin 32 = .ok (.iinc 1 1, 3) := by decide +kernel
theorem dX12_begin_35 : decode cX12_begin 35 = .ok (.goto (-15), 3) := by decide +kernel
theorem dX12_begin_38 : decode cX12_begin 38 = .ok (.return_, 1) := by decide +kernel
theorem dX12_members_0 : decode cX12_members 0 = .ok (.aload_n 0, 1) := by decide +kernel
theorem dX12_members_1 : decode cX12_members 1 = .ok (.getfield 7, 3) := by decide +kernel
theorem dX12_members_4 : decode cX12_members 4 = .ok (.iconst 0, 1) := by decide +kernel
theorem dX12_members_5 : decode cX12_members 5 = .ok (.iaload, 1) := by decide +kernel
theorem dX12_members_6 : decode cX12_members 6 = .ok (.ireturn, 1) := by decide +kernel
theorem dX12_letters_0 : decode cX12_letters 0 = .ok (.aload_n 0, 1) := by decide +kernel
theorem dX12_letters_1 : decode cX12_letters 1 = .ok (.getfield 7, 3) := by decide +kernel
theorem dX12_letters_4 : decode cX12_letters 4 = .ok (.iconst 1, 1) := by decide +kernel
theorem dX12_letters_5 : decode cX12_letters 5 = .ok (.iaload, 1) := by decide +kernel
theorem dX12_letters_6 : decode cX12_letters 6 = .ok (.ireturn, 1) := by decide +kernel
theorem dX12_isMember_0 : decode cX12_isMember 0 = .ok (.iload_n 1, 1) := by decide +kernel
theorem dX12_isMember_1 : decode cX12_isMember 1 = .ok (.i2l, 1) := by decide +kernel
theorem dX12_isMember_2 : decode cX12_isMember 2 = .ok (.lconst 0, 1) := by decide +kernel
theorem dX12_isMember_3 : decode cX12_isMember 3 = .ok (.aload_n 0, 1) := by decide +kernel
theorem dX12_isMember_4 : decode cX12_isMember 4 = .ok (.invokevirtual 61, 3) := by decide +kernel
theorem dX12_isMember_7 : decode cX12_isMember 7 = .ok (.iconst 1, 1) := by decide +kernel
theorem dX12_isMember_8 : decode cX12_isMember 8 = .ok (.isub, 1) := by decide +kernel
theorem dX12_isMember_9 : decode cX12_isMember 9 = .ok (.i2l, 1) := by decide +kernel
theorem dX12_isMember_10 : decode cX12_isMember 10 = .ok (.invokestatic 65, 3) := by decide +kernel
theorem dX12_isMember_13 : decode cX12_isMember 13 = .ok (.ireturn, 1) := by decide +kernel
theorem dX12_isLetter_0 : decode cX12_isLetter 0 = .ok (.iload_n 1, 1) := by decide +kernel
theorem dX12_isLetter_1 : decode cX12_isLetter 1 = .ok (.i2l, 1) := by decide +kernel
theorem dX12_isLetter_2 : decode cX12_isLetter 2 = .ok (.lconst 0, 1) := by decide +kernel
theorem dX12_isLetter_3 : decode cX12_isLetter 3 = .ok (.aload_n 0, 1) := by decide +kernel
theorem dX12_isLetter_4 : decode cX12_isLetter 4 = .ok (.invokevirtual 69, 3) := by decide +kernel
theorem dX12_isLetter_7 : decode cX12_isLetter 7 = .ok (.iconst 1, 1) := by decide +kernel
theorem dX12_isLetter_8 : decode cX12_isLetter 8 = .ok (.isub, 1) := by decide +kernel
theorem dX12_isLetter_9 : decode cX12_isLetter 9 = .ok (.i2l, 1) := by decide +kernel
theorem dX12_isLetter_10 : decode cX12_isLetter 10 = .ok (.invokestatic 65, 3) := by decide +kernel
theorem dX12_isLetter_13 : decode cX12_isLetter 13 = .ok (.ireturn, 1) := by decide +kernel
theorem dX12_isPlace_0 : decode cX12_isPlace 0 = .ok (.iload_n 0, 1) := by decide +kernel
theorem dX12_isPlace_1 : decode cX12_isPlace 1 = .ok (.i2l, 1) := by decide +kernel
theorem dX12_isPlace_2 : decode cX12_isPlace 2 = .ok (.lconst 0, 1) := by decide +kernel
theorem dX12_isPlace_3 : decode cX12_isPlace 3 = .ok (.ldc2_w 72, 3) := by decide +kernel
theorem dX12_isPlace_6 : decode cX12_isPlace 6 = .ok (.invokestatic 65, 3) := by decide +kernel
theorem dX12_isPlace_9 : decode cX12_isPlace 9 = .ok (.ireturn, 1) := by decide +kernel
theorem dX12_get_0 : decode cX12_get 0 = .ok (.aload_n 0, 1) := by decide +kernel
theorem dX12_get_1 : decode cX12_get 1 = .ok (.getfield 7, 3) := by decide +kernel
theorem dX12_get_4 : decode cX12_get 4 = .ok (.bipush 29, 2) := by decide +kernel
theorem dX12_get_6 : decode cX12_get 6 = .ok (.iconst 3, 1) := by decide +kernel
theorem dX12_get_7 : decode cX12_get 7 = .ok (.iload_n 1, 1) := by decide +kernel
theorem dX12_get_8 : decode cX12_get 8 = .ok (.imul, 1) := by decide +kernel
theorem dX12_get_9 : decode cX12_get 9 = .ok (.iadd, 1) := by decide +kernel
theorem dX12_get_10 : decode cX12_get 10 = .ok (.iload_n 2, 1) := by decide +kernel
theorem dX12_get_11 : decode cX12_get 11 = .ok (.iadd, 1) := by decide +kernel
theorem dX12_get_12 : decode cX12_get 12 = .ok (.iaload, 1) := by decide +kernel
theorem dX12_get_13 : decode cX12_get 13 = .ok (.ireturn, 1) := by decide +kernel
theorem dX12_house_0 : decode cX12_house 0 = .ok (.aload_n 0, 1) := by decide +kernel
theorem dX12_house_1 : decode cX12_house 1 = .ok (.invokevirtual 61, 3) := by decide +kernel
theorem dX12_house_4 : decode cX12_house 4 = .ok (.istore_n 1, 1) := by decide +kernel
theorem dX12_house_5 : decode cX12_house 5 = .ok (.aload_n 0, 1) := by decide +kernel
theorem dX12_house_6 : decode cX12_house 6 = .ok (.getfield 7, 3) := by decide +kernel
theorem dX12_house_9 : decode cX12_house 9 = .ok (.invokestatic 57, 3) := by decide +kernel
theorem dX12_house_12 : decode cX12_house 12 = .ok (.iload_n 1, 1) := by decide +kernel
theorem dX12_house_13 : decode cX12_house 13 = .ok (.ireturn, 1) := by decide +kernel
theorem dX12_layMember_0 : decode cX12_layMember 0 = .ok (.aload_n 0, 1) := by decide +kernel
theorem dX12_layMember_1 : decode cX12_layMember 1 = .ok (.iconst 0, 1) := by decide +kernel
theorem dX12_layMember_2 : decode cX12_layMember 2 = .ok (.iaload, 1) := by decide +kernel
theorem dX12_layMember_3 : decode cX12_layMember 3 = .ok (.istore_n 3, 1) := by decide +kernel
theorem dX12_layMember_4 : decode cX12_layMember 4 = .ok (.aload_n 0, 1) := by decide +kernel
theorem dX12_layMember_5 : decode cX12_layMember 5 = .ok (.bipush 24, 2) := by decide +kernel
theorem dX12_layMember_7 : decode cX12_layMember 7 = .ok (.iload_n 3, 1) := by decide +kernel
theorem dX12_layMember_8 : decode cX12_layMember 8 = .ok (.iadd, 1) := by decide +kernel
theorem dX12_layMember_9 : decode cX12_layMember 9 = .ok (.iload_n 1, 1) := by decide +kernel
theorem dX12_layMember_10 : decode cX12_layMember 10 = .ok (.iastore, 1) := by decide +kernel
theorem dX12_layMember_11 : decode cX12_layMember 11 = .ok (.aload_n 0, 1) := by decide +kernel
theorem dX12_layMember_12 : decode cX12_layMember 12 = .ok (.bipush 16, 2) := by decide +kernel
theorem dX12_layMember_14 : decode cX12_layMember 14 = .ok (.iload_n 3, 1) := by decide +kernel
theorem dX12_layMember_15 : decode cX12_layMember 15 = .ok (.iadd, 1) := by decide +kernel
theorem dX12_layMember_16 : decode cX12_layMember 16 = .ok (.iload_n 2, 1) := by decide +kernel
theorem dX12_layMember_17 : decode cX12_layMember 17 = .ok (.iastore, 1) := by decide +kernel
theorem dX12_layMember_18 : decode cX12_layMember 18 = .ok (.aload_n 0, 1) := by decide +kernel
theorem dX12_layMember_19 : decode cX12_layMember 19 = .ok (.bipush 11, 2) := by decide +kernel
theorem dX12_layMember_21 : decode cX12_layMember 21 = .ok (.iload_n 3, 1) := by decide +kernel
theorem dX12_layMember_22 : decode cX12_layMember 22 = .ok (.iadd, 1) := by decide +kernel
theorem dX12_layMember_23 : decode cX12_layMember 23 = .ok (.iconst 0, 1) := by decide +kernel
theorem dX12_layMember_24 : decode cX12_layMember 24 = .ok (.iastore, 1) := by decide +kernel
theorem dX12_layMember_25 : decode cX12_layMember 25 = .ok (.aload_n 0, 1) := by decide +kernel
theorem dX12_layMember_26 : decode cX12_layMember 26 = .ok (.iconst 0, 1) := by decide +kernel
theorem dX12_layMember_27 : decode cX12_layMember 27 = .ok (.dup2, 1) := by decide +kernel
theorem dX12_layMember_28 : decode cX12_layMember 28 = .ok (.iaload, 1) := by decide +kernel
theorem dX12_layMember_29 : decode cX12_layMember 29 = .ok (.iconst 1, 1) := by decide +kernel
theorem dX12_layMember_30 : decode cX12_layMember 30 = .ok (.iadd, 1) := by decide +kernel
theorem dX12_layMember_31 : decode cX12_layMember 31 = .ok (.iastore, 1) := by decide +kernel
theorem dX12_layMember_32 : decode cX12_layMember 32 = .ok (.return_, 1) := by decide +kernel
theorem dX12_member_0 : decode cX12_member 0 = .ok (.iload_n 1, 1) := by decide +kernel
theorem dX12_member_1 : decode cX12_member 1 = .ok (.i2l, 1) := by decide +kernel
theorem dX12_member_2 : decode cX12_member 2 = .ok (.lconst 0, 1) := by decide +kernel
theorem dX12_member_3 : decode cX12_member 3 = .ok (.ldc2_w 74, 3) := by decide +kernel
theorem dX12_member_6 : decode cX12_member 6 = .ok (.invokestatic 65, 3) := by decide +kernel
theorem dX12_member_9 : decode cX12_member 9 = .ok (.ifCond .eq 10, 3) := by decide +kernel
theorem dX12_member_12 : decode cX12_member 12 = .ok (.iload_n 2, 1) := by decide +kernel
theorem dX12_member_13 : decode cX12_member 13 = .ok (.invokestatic 76, 3) := by decide +kernel
theorem dX12_member_16 : decode cX12_member 16 = .ok (.ifCond .ne 10, 3) := by decide +kernel
theorem dX12_member_19 : decode cX12_member 19 = .ok (.aload_n 0, 1) := by decide +kernel
theorem dX12_member_20 : decode cX12_member 20 = .ok (.bipush (-2), 2) := by decide +kernel
theorem dX12_member_22 : decode cX12_member 22 = .ok (.invokevirtual 80, 3) := by decide +kernel
theorem dX12_member_25 : decode cX12_member 25 = .ok (.ireturn, 1) := by decide +kernel
theorem dX12_member_26 : decode cX12_member 26 = .ok (.aload_n 0, 1) := by decide +kernel
theorem dX12_member_27 : decode cX12_member 27 = .ok (.invokevirtual 61, 3) := by decide +kernel
theorem dX12_member_30 : decode cX12_member 30 = .ok (.iconst 5, 1) := by decide +kernel
theorem dX12_member_31 : decode cX12_member 31 = .ok (.if_icmp .ne 8, 3) := by decide +kernel
theorem dX12_member_34 : decode cX12_member 34 = .ok (.aload_n 0, 1) := by decide +kernel
theorem dX12_member_35 : decode cX12_member 35 = .ok (.invokevirtual 84, 3) := by decide +kernel
theorem dX12_member_38 : decode cX12_member 38 = .ok (.ireturn, 1) := by decide +kernel
theorem dX12_member_39 : decode cX12_member 39 = .ok (.aload_n 0, 1) := by decide +kernel
theorem dX12_member_40 : decode cX12_member 40 = .ok (.getfield 7, 3) := by decide +kernel
theorem dX12_member_43 : decode cX12_member 43 = .ok (.iload_n 1, 1) := by decide +kernel
theorem dX12_member_44 : decode cX12_member 44 = .ok (.iload_n 2, 1) := by decide +kernel
theorem dX12_member_45 : decode cX12_member 45 = .ok (.invokestatic 87, 3) := by decide +kernel
theorem dX12_member_48 : decode cX12_member 48 = .ok (.aload_n 0, 1) := by decide +kernel
theorem dX12_member_49 : decode cX12_member 49 = .ok (.getfield 7, 3) := by decide +kernel
theorem dX12_member_52 : decode cX12_member 52 = .ok (.iconst 4, 1) := by decide +kernel
theorem dX12_member_53 : decode cX12_member 53 = .ok (.iconst 0, 1) := by decide +kernel
theorem dX12_member_54 : decode cX12_member 54 = .ok (.iastore, 1) := by decide +kernel
theorem dX12_member_55 : decode cX12_member 55 = .ok (.aload_n 0, 1) := by decide +kernel
theorem dX12_member_56 : decode cX12_member 56 = .ok (.invokevirtual 61, 3) := by decide +kernel
theorem dX12_member_59 : decode cX12_member 59 = .ok (.iconst 1, 1) := by decide +kernel
theorem dX12_member_60 : decode cX12_member 60 = .ok (.isub, 1) := by decide +kernel
theorem dX12_member_61 : decode cX12_member 61 = .ok (.ireturn, 1) := by decide +kernel
theorem dX12_layLetter_0 : decode cX12_layLetter 0 = .ok (.aload_n 0, 1) := by decide +kernel
theorem dX12_layLetter_1 : decode cX12_layLetter 1 = .ok (.iconst 1, 1) := by decide +kernel
theorem dX12_layLetter_2 : decode cX12_layLetter 2 = .ok (.iaload, 1) := by decide +kernel
theorem dX12_layLetter_3 : decode cX12_layLetter 3 = .ok (.istore 4, 2) := by decide +kernel
theorem dX12_layLetter_5 : decode cX12_layLetter 5 = .ok (.aload_n 0, 1) := by decide +kernel
theorem dX12_layLetter_6 : decode cX12_layLetter 6 = .ok (.bipush 29, 2) := by decide +kernel
theorem dX12_layLetter_8 : decode cX12_layLetter 8 = .ok (.iconst 3, 1) := by decide +kernel
theorem dX12_layLetter_9 : decode cX12_layLetter 9 = .ok (.iload 4, 2) := by decide +kernel
theorem dX12_layLetter_11 : decode cX12_layLetter 11 = .ok (.imul, 1) := by decide +kernel
theorem dX12_layLetter_12 : decode cX12_layLetter 12 = .ok (.iadd, 1) := by decide +kernel
theorem dX12_layLetter_13 : decode cX12_layLetter 13 = .ok (.iconst 0, 1) := by decide +kernel
theorem dX12_layLetter_14 : decode cX12_layLetter 14 = .ok (.iadd, 1) := by decide +kernel
theorem dX12_layLetter_15 : decode cX12_layLetter 15 = .ok (.iload_n 1, 1) := by decide +kernel
theorem dX12_layLetter_16 : decode cX12_layLetter 16 = .ok (.iastore, 1) := by decide +kernel
theorem dX12_layLetter_17 : decode cX12_layLetter 17 = .ok (.aload_n 0, 1) := by decide +kernel
theorem dX12_layLetter_18 : decode cX12_layLetter 18 = .ok (.bipush 29, 2) := by decide +kernel
theorem dX12_layLetter_20 : decode cX12_layLetter 20 = .ok (.iconst 3, 1) := by decide +kernel
theorem dX12_layLetter_21 : decode cX12_layLetter 21 = .ok (.iload 4, 2) := by decide +kernel
theorem dX12_layLetter_23 : decode cX12_layLetter 23 = .ok (.imul, 1) := by decide +kernel
theorem dX12_layLetter_24 : decode cX12_layLetter 24 = .ok (.iadd, 1) := by decide +kernel
theorem dX12_layLetter_25 : decode cX12_layLetter 25 = .ok (.iconst 1, 1) := by decide +kernel
theorem dX12_layLetter_26 : decode cX12_layLetter 26 = .ok (.iadd, 1) := by decide +kernel
theorem dX12_layLetter_27 : decode cX12_layLetter 27 = .ok (.iload_n 2, 1) := by decide +kernel
theorem dX12_layLetter_28 : decode cX12_layLetter 28 = .ok (.iastore, 1) := by decide +kernel
theorem dX12_layLetter_29 : decode cX12_layLetter 29 = .ok (.aload_n 0, 1) := by decide +kernel
theorem dX12_layLetter_30 : decode cX12_layLetter 30 = .ok (.bipush 29, 2) := by decide +kernel
theorem dX12_layLetter_32 : decode cX12_layLetter 32 = .ok (.iconst 3, 1) := by decide +kernel
theorem dX12_layLetter_33 : decode cX12_layLetter 33 = .ok (.iload 4, 2) := by decide +kernel
theorem dX12_layLetter_35 : decode cX12_layLetter 35 = .ok (.imul, 1) := by decide +kernel
theorem dX12_layLetter_36 : decode cX12_layLetter 36 = .ok (.iadd, 1) := by decide +kernel
theorem dX12_layLetter_37 : decode cX12_layLetter 37 = .ok (.iconst 2, 1) := by decide +kernel
theorem dX12_layLetter_38 : decode cX12_layLetter 38 = .ok (.iadd, 1) := by decide +kernel
theorem dX12_layLetter_39 : decode cX12_layLetter 39 = .ok (.iload_n 3, 1) := by decide +kernel
theorem dX12_layLetter_40 : decode cX12_layLetter 40 = .ok (.iastore, 1) := by decide +kernel
theorem dX12_layLetter_41 : decode cX12_layLetter 41 = .ok (.aload_n 0, 1) := by decide +kernel
theorem dX12_layLetter_42 : decode cX12_layLetter 42 = .ok (.iconst 5, 1) := by decide +kernel
theorem dX12_layLetter_43 : decode cX12_layLetter 43 = .ok (.iload 4, 2) := by decide +kernel
theorem dX12_layLetter_45 : decode cX12_layLetter 45 = .ok (.iadd, 1) := by decide +kernel
theorem dX12_layLetter_46 : decode cX12_layLetter 46 = .ok (.iconst (-1), 1) := by decide +kernel
theorem dX12_layLetter_47 : decode cX12_layLetter 47 = .ok (.iastore, 1) := by decide +kernel
theorem dX12_layLetter_48 : decode cX12_layLetter 48 = .ok (.aload_n 0, 1) := by decide +kernel
theorem dX12_layLetter_49 : decode cX12_layLetter 49 = .ok (.iconst 1, 1) := by decide +kernel
theorem dX12_layLetter_50 : decode cX12_layLetter 50 = .ok (.dup2, 1) := by decide +kernel
theorem dX12_layLetter_51 : decode cX12_layLetter 51 = .ok (.iaload, 1) := by decide +kernel
theorem dX12_layLetter_52 : decode cX12_layLetter 52 = .ok (.iconst 1, 1) := by decide +kernel
theorem dX12_layLetter_53 : decode cX12_layLetter 53 = .ok (.iadd, 1) := by decide +kernel
theorem dX12_layLetter_54 : decode cX12_layLetter 54 = .ok (.iastore, 1) := by decide +kernel
theorem dX12_layLetter_55 : decode cX12_layLetter 55 = .ok (.return_, 1) := by decide +kernel
theorem dX12_letter_0 : decode cX12_letter 0 = .ok (.iload_n 1, 1) := by decide +kernel
theorem dX12_letter_1 : decode cX12_letter 1 = .ok (.invokestatic 76, 3) := by decide +kernel
theorem dX12_letter_4 : decode cX12_letter 4 = .ok (.ifCond .eq 22, 3) := by decide +kernel
theorem dX12_letter_7 : decode cX12_letter 7 = .ok (.iload_n 2, 1) := by decide +kernel
theorem dX12_letter_8 : decode cX12_letter 8 = .ok (.invokestatic 76, 3) := by decide +kernel
theorem dX12_letter_11 : decode cX12_letter 11 = .ok (.ifCond .eq 15, 3) := by decide +kernel
theorem dX12_letter_14 : decode cX12_letter 14 = .ok (.iload_n 3, 1) := by decide +kernel
theorem dX12_letter_15 : decode cX12_letter 15 = .ok (.i2l, 1) := by decide +kernel
theorem dX12_letter_16 : decode cX12_letter 16 = .ok (.lconst 1, 1) := by decide +kernel
theorem dX12_letter_17 : decode cX12_letter 17 = .ok (.ldc2_w 91, 3) := by decide +kernel
theorem dX12_letter_20 : decode cX12_letter 20 = .ok (.invokestatic 65, 3) := by decide +kernel
theorem dX12_letter_23 : decode cX12_letter 23 = .ok (.ifCond .ne 10, 3) := by decide +kernel
theorem dX12_letter_26 : decode cX12_letter 26 = .ok (.aload_n 0, 1) := by decide +kernel
theorem dX12_letter_27 : decode cX12_letter 27 = .ok (.bipush (-2), 2) := by decide +kernel
theorem dX12_letter_29 : decode cX12_letter 29 = .ok (.invokevirtual 80, 3) := by decide +kernel
theorem dX12_letter_32 : decode cX12_letter 32 = .ok (.ireturn, 1) := by decide +kernel
theorem dX12_letter_33 : decode cX12_letter 33 = .ok (.aload_n 0, 1) := by decide +kernel
theorem dX12_letter_34 : decode cX12_letter 34 = .ok (.invokevirtual 69, 3) := by decide +kernel
theorem dX12_letter_37 : decode cX12_letter 37 = .ok (.bipush 6, 2) := by decide +kernel
theorem dX12_letter_39 : decode cX12_letter 39 = .ok (.if_icmp .ne 8, 3) := by decide +kernel
theorem dX12_letter_42 : decode cX12_letter 42 = .ok (.aload_n 0, 1) := by decide +kernel
theorem dX12_letter_43 : decode cX12_letter 43 = .ok (.invokevirtual 84, 3) := by decide +kernel
theorem dX12_letter_46 : decode cX12_letter 46 = .ok (.ireturn, 1) := by decide +kernel
theorem dX12_letter_47 : decode cX12_letter 47 = .ok (.aload_n 0, 1) := by decide +kernel
theorem dX12_letter_48 : decode cX12_letter 48 = .ok (.getfield 7, 3) := by decide +kernel
theorem dX12_letter_51 : decode cX12_letter 51 = .ok (.iload_n 1, 1) := by decide +kernel
theorem dX12_letter_52 : decode cX12_letter 52 = .ok (.iload_n 2, 1) := by decide +kernel
theorem dX12_letter_53 : decode cX12_letter 53 = .ok (.iload_n 3, 1) := by decide +kernel
theorem dX12_letter_54 : decode cX12_letter 54 = .ok (.invokestatic 93, 3) := by decide +kernel
theorem dX12_letter_57 : decode cX12_letter 57 = .ok (.aload_n 0, 1) := by decide +kernel
theorem dX12_letter_58 : decode cX12_letter 58 = .ok (.getfield 7, 3) := by decide +kernel
theorem dX12_letter_61 : decode cX12_letter 61 = .ok (.iconst 4, 1) := by decide +kernel
theorem dX12_letter_62 : decode cX12_letter 62 = .ok (.iconst 0, 1) := by decide +kernel
theorem dX12_letter_63 : decode cX12_letter 63 = .ok (.iastore, 1) := by decide +kernel
theorem dX12_letter_64 : decode cX12_letter 64 = .ok (.aload_n 0, 1) := by decide +kernel
theorem dX12_letter_65 : decode cX12_letter 65 = .ok (.invokevirtual 69, 3) := by decide +kernel
theorem dX12_letter_68 : decode cX12_letter 68 = .ok (.iconst 1, 1) := by decide +kernel
theorem dX12_letter_69 : decode cX12_letter 69 = .ok (.isub, 1) := by decide +kernel
theorem dX12_letter_70 : decode cX12_letter 70 = .ok (.ireturn, 1) := by decide +kernel
theorem dX12_coversAs_0 : decode cX12_coversAs 0 = .ok (.iload_n 1, 1) := by decide +kernel
theorem dX12_coversAs_1 : decode cX12_coversAs 1 = .ok (.iconst 2, 1) := by decide +kernel
theorem dX12_coversAs_2 : decode cX12_coversAs 2 = .ok (.irem, 1) := by decide +kernel
theorem dX12_coversAs_3 : decode cX12_coversAs 3 = .ok (.ifCond .ne 7, 3) := by decide +kernel
theorem dX12_coversAs_6 : decode cX12_coversAs 6 = .ok (.iconst 5, 1) := by decide +kernel
theorem dX12_coversAs_7 : decode cX12_coversAs 7 = .ok (.goto 5, 3) := by decide +kernel
theorem dX12_coversAs_10 : decode cX12_coversAs 10 = .ok (.bipush 10, 2) := by decide +kernel
theorem dX12_coversAs_12 : decode cX12_coversAs 12 = .ok (.istore_n 2, 1) := by decide +kernel
theorem dX12_coversAs_13 : decode cX12_coversAs 13 = .ok (.iload_n 0, 1) := by decide +kernel
theorem dX12_coversAs_14 : decode cX12_coversAs 14 = .ok (.iconst 2, 1) := by decide +kernel
theorem dX12_coversAs_15 : decode cX12_coversAs 15 = .ok (.if_icmp .ne 7, 3) := by decide +kernel
theorem dX12_coversAs_18 : decode cX12_coversAs 18 = .ok (.iload_n 2, 1) := by decide +kernel
theorem dX12_coversAs_19 : decode cX12_coversAs 19 = .ok (.goto 34, 3) := by decide +kernel
theorem dX12_coversAs_22 : decode cX12_coversAs 22 = .ok (.iload_n 0, 1) := by decide +kernel
theorem dX12_coversAs_23 : decode cX12_coversAs 23 = .ok (.iconst 4, 1) := by decide +kernel
theorem dX12_coversAs_24 : decode cX12_coversAs 24 = .ok (.if_icmp .ne 17, 3) := by decide +kernel
theorem dX12_coversAs_27 : decode cX12_coversAs 27 = .ok (.iload_n 1, 1) := by decide +kernel
theorem dX12_coversAs_28 : decode cX12_coversAs 28 = .ok (.bipush 7, 2) := by decide +kernel
theorem dX12_coversAs_30 : decode cX12_coversAs 30 = .ok (.if_icmp .ge 7, 3) := by decide +kernel
theorem dX12_coversAs_33 : decode cX12_coversAs 33 = .ok (.iload_n 2, 1) := by decide +kernel
theorem dX12_coversAs_34 : decode cX12_coversAs 34 = .ok (.goto 19, 3) := by decide +kernel
theorem dX12_coversAs_37 : decode cX12_coversAs 37 = .ok (.iconst 0, 1) := by decide +kernel
theorem dX12_coversAs_38 : decode cX12_coversAs 38 = .ok (.goto 15, 3) := by decide +kernel
theorem dX12_coversAs_41 : decode cX12_coversAs 41 = .ok (.iload_n 0, 1) := by decide +kernel
theorem dX12_coversAs_42 : decode cX12_coversAs 42 = .ok (.iconst 5, 1) := by decide +kernel
theorem dX12_coversAs_43 : decode cX12_coversAs 43 = .ok (.if_icmp .ne 8, 3) := by decide +kernel
theorem dX12_coversAs_46 : decode cX12_coversAs 46 = .ok (.bipush 13, 2) := by decide +kernel
theorem dX12_coversAs_48 : decode cX12_coversAs 48 = .ok (.goto 5, 3) := by decide +kernel
theorem dX12_coversAs_51 : decode cX12_coversAs 51 = .ok (.bipush 10, 2) := by decide +kernel
theorem dX12_coversAs_53 : decode cX12_coversAs 53 = .ok (.ireturn, 1) := by decide +kernel
theorem dX12_reachAs_0 : decode cX12_reachAs 0 = .ok (.iload_n 0, 1) := by decide +kernel
theorem dX12_reachAs_1 : decode cX12_reachAs 1 = .ok (.iconst 3, 1) := by decide +kernel
theorem dX12_reachAs_2 : decode cX12_reachAs 2 = .ok (.if_icmp .ne 8, 3) := by decide +kernel
theorem dX12_reachAs_5 : decode cX12_reachAs 5 = .ok (.bipush 40, 2) := by decide +kernel
theorem dX12_reachAs_7 : decode cX12_reachAs 7 = .ok (.goto 24, 3) := by decide +kernel
theorem dX12_reachAs_10 : decode cX12_reachAs 10 = .ok (.iload_n 0, 1) := by decide +kernel
theorem dX12_reachAs_11 : decode cX12_reachAs 11 = .ok (.iconst 4, 1) := by decide +kernel
theorem dX12_reachAs_12 : decode cX12_reachAs 12 = .ok (.if_icmp .ne 7, 3) := by decide +kernel
theorem dX12_reachAs_15 : decode cX12_reachAs 15 = .ok (.iconst 0, 1) := by decide +kernel
theorem dX12_reachAs_16 : decode cX12_reachAs 16 = .ok (.goto 15, 3) := by decide +kernel
theorem dX12_reachAs_19 : decode cX12_reachAs 19 = .ok (.iload_n 0, 1) := by decide +kernel
theorem dX12_reachAs_20 : decode cX12_reachAs 20 = .ok (.iconst 5, 1) := by decide +kernel
theorem dX12_reachAs_21 : decode cX12_reachAs 21 = .ok (.if_icmp .ne 8, 3) := by decide +kernel
theorem dX12_reachAs_24 : decode cX12_reachAs 24 = .ok (.bipush 10, 2) := by decide +kernel
theorem dX12_reachAs_26 : decode cX12_reachAs 26 = .ok (.goto 5, 3) := by decide +kernel
theorem dX12_reachAs_29 : decode cX12_reachAs 29 = .ok (.bipush 20, 2) := by decide +kernel
theorem dX12_reachAs_31 : decode cX12_reachAs 31 = .ok (.ireturn, 1) := by decide +kernel
theorem dX12_bearsAs_0 : decode cX12_bearsAs 0 = .ok (.iload_n 0, 1) := by decide +kernel
theorem dX12_bearsAs_1 : decode cX12_bearsAs 1 = .ok (.iconst 1, 1) := by decide +kernel
theorem dX12_bearsAs_2 : decode cX12_bearsAs 2 = .ok (.if_icmp .eq 8, 3) := by decide +kernel
theorem dX12_bearsAs_5 : decode cX12_bearsAs 5 = .ok (.iload_n 0, 1) := by decide +kernel
theorem dX12_bearsAs_6 : decode cX12_bearsAs 6 = .ok (.iconst 5, 1) := by decide +kernel
theorem dX12_bearsAs_7 : decode cX12_bearsAs 7 = .ok (.if_icmp .ne 7, 3) := by decide +kernel
theorem dX12_bearsAs_10 : decode cX12_bearsAs 10 = .ok (.iconst 5, 1) := by decide +kernel
theorem dX12_bearsAs_11 : decode cX12_bearsAs 11 = .ok (.goto 4, 3) := by decide +kernel
theorem dX12_bearsAs_14 : decode cX12_bearsAs 14 = .ok (.iconst 2, 1) := by decide +kernel
theorem dX12_bearsAs_15 : decode cX12_bearsAs 15 = .ok (.ireturn, 1) := by decide +kernel
theorem dX12_miles_0 : decode cX12_miles 0 = .ok (.iload_n 0, 1) := by decide +kernel
theorem dX12_miles_1 : decode cX12_miles 1 = .ok (.iload_n 1, 1) := by decide +kernel
theorem dX12_miles_2 : decode cX12_miles 2 = .ok (.if_icmp .ge 9, 3) := by decide +kernel
theorem dX12_miles_5 : decode cX12_miles 5 = .ok (.iload_n 1, 1) := by decide +kernel
theorem dX12_miles_6 : decode cX12_miles 6 = .ok (.iload_n 0, 1) := by decide +kernel
theorem dX12_miles_7 : decode cX12_miles 7 = .ok (.isub, 1) := by decide +kernel
theorem dX12_miles_8 : decode cX12_miles 8 = .ok (.goto 6, 3) := by decide +kernel
theorem dX12_miles_11 : decode cX12_miles 11 = .ok (.iload_n 0, 1) := by decide +kernel
theorem dX12_miles_12 : decode cX12_miles 12 = .ok (.iload_n 1, 1) := by decide +kernel
theorem dX12_miles_13 : decode cX12_miles 13 = .ok (.isub, 1) := by decide +kernel
theorem dX12_miles_14 : decode cX12_miles 14 = .ok (.ireturn, 1) := by decide +kernel
